section FN
variable {xs : Nat → Int32} {L : Nat} {g : Nat → Int64} {d kc ks : Nat}
theorem pp_Re_forget {xs : Nat → Int32} {L : Nat} : (pj_P xs L 9).1 = fun S => pm_look tb_Re_forget S.1 S := rfl
def d_Re_forget  (v : pd_V) : Option pd_V :=
  some (pd_w v 1 1 (0 : Int32))
theorem s_Re_forget  {v : pd_V} {q : pd_V}  (h : d_Re_forget v = some q) : pm_ev (pj_P xs L) d 9 (0, [some (.ref 1)], [], (223, kc, ks, pd_H g v)) (.inl none, (223, kc, ks, pd_H g q)) := by
  unfold d_Re_forget at h
  refine ev_gos pp_Re_forget 2 (S' := (2, [some (.ref 1)], [.int (0 : Int32), .ref 1], (223, kc, ks, pd_H g v))) rfl ?_
  refine ev_put pp_Re_forget rfl (fun _ => rfl) rfl rfl rfl ?_
  refine ev_gos pp_Re_forget 0 (S' := (5, [some (.ref 1)], [], (223, kc, ks, pd_H g (pd_w v 1 1 (0 : Int32))))) rfl ?_
  cases h
  exact ev_fin pp_Re_forget rfl
theorem pp_De_clear {xs : Nat → Int32} {L : Nat} : (pj_P xs L 8).1 = fun S => pm_look tb_De_clear S.1 S := rfl
def d_De_clear  (v : pd_V) : Option pd_V :=
  (d_Re_forget v).bind fun q1 =>
  some q1
theorem s_De_clear  {v : pd_V} {q : pd_V}  (h : d_De_clear v = some q) : pm_ev (pj_P xs L) (d + 1) 8 (0, [some (.ref 0)], [], (223, kc, ks, pd_H g v)) (.inl none, (223, kc, ks, pd_H g q)) := by
  unfold d_De_clear at h
  refine ev_gos pp_De_clear 2 (S' := (4, [some (.ref 0)], [.ref 1], (223, kc, ks, pd_H g v))) rfl ?_
  obtain ⟨q1, hq1, h⟩ := pd_bind h
  refine ev_callv pp_De_clear rfl rfl rfl rfl (s_Re_forget hq1) ?_
  refine ev_gos pp_De_clear 0 (S' := (7, [some (.ref 0)], [], (223, kc, ks, pd_H g q1))) rfl ?_
  cases h
  exact ev_fin pp_De_clear rfl
theorem pp_Ke_empty {xs : Nat → Int32} {L : Nat} : (pj_P xs L 12).1 = fun S => pm_look tb_Ke_empty S.1 S := rfl
def d_Ke_empty (l0 : Nat) (v : pd_V) : Option pd_V :=
  some (pd_w (pd_w v l0 3 (0 : Int32)) l0 4 (0 : Int32))
theorem s_Ke_empty {l0 : Nat} {v : pd_V} {q : pd_V} (hl0 : ker l0) (h : d_Ke_empty l0 v = some q) : pm_ev (pj_P xs L) d 12 (0, [some (.ref l0)], [], (223, kc, ks, pd_H g v)) (.inl none, (223, kc, ks, pd_H g q)) := by
  unfold d_Ke_empty at h
  refine ev_gos pp_Ke_empty 2 (S' := (2, [some (.ref l0)], [.int (0 : Int32), .ref l0], (223, kc, ks, pd_H g v))) rfl ?_
  refine ev_put pp_Ke_empty rfl (c_ke hl0) rfl rfl rfl ?_
  refine ev_gos pp_Ke_empty 2 (S' := (7, [some (.ref l0)], [.int (0 : Int32), .ref l0], (223, kc, ks, pd_H g (pd_w v l0 3 (0 : Int32))))) rfl ?_
  refine ev_put pp_Ke_empty rfl (c_ke hl0) rfl rfl rfl ?_
  refine ev_gos pp_Ke_empty 0 (S' := (10, [some (.ref l0)], [], (223, kc, ks, pd_H g (pd_w (pd_w v l0 3 (0 : Int32)) l0 4 (0 : Int32))))) rfl ?_
  cases h
  exact ev_fin pp_Ke_empty rfl
theorem pp_Re_next {xs : Nat → Int32} {L : Nat} : (pj_P xs L 13).1 = fun S => pm_look tb_Re_next S.1 S := rfl
def d_Re_next  (v : pd_V) : Option Int32 :=
  bif decide ((v 1 2) < 0) then
    some (-1 : Int32)
  else
    bif decide ((v 1 1) ≤ (v 1 2)) then
      some (-1 : Int32)
    else
      bif pm_in (v 1 2) 160 then
      some (v 2 ((v 1 2).toNatClampNeg))
      else none
theorem s_Re_next  {v : pd_V} {q : Int32}  (h : d_Re_next v = some q) : pm_ev (pj_P xs L) d 13 (0, [some (.ref 1)], [], (223, kc, ks, pd_H g v)) (.inl (some (.int q)), (223, kc, ks, pd_H g v)) := by
  unfold d_Re_next at h
  refine ev_gos pp_Re_next 2 (S' := (4, [some (.ref 1)], [.int (v 1 2)], (223, kc, ks, pd_H g v))) rfl ?_
  refine ev_gos pp_Re_next 1 (S' := (bif decide ((v 1 2) < 0) then 30 else 7, [some (.ref 1)], [], (223, kc, ks, pd_H g v))) rfl ?_
  rcases pd_cases h with ⟨hb1, h⟩ | ⟨hb1, h⟩
  · rw [hb1]
    refine ev_gos pp_Re_next 1 (S' := (31, [some (.ref 1)], [.int (-1 : Int32)], (223, kc, ks, pd_H g v))) rfl ?_
    cases h
    exact ev_fin pp_Re_next rfl
  · rw [hb1]
    refine ev_gos pp_Re_next 4 (S' := (15, [some (.ref 1)], [.int (v 1 1), .int (v 1 2)], (223, kc, ks, pd_H g v))) rfl ?_
    refine ev_gos pp_Re_next 1 (S' := (bif decide ((v 1 1) ≤ (v 1 2)) then 30 else 18, [some (.ref 1)], [], (223, kc, ks, pd_H g v))) rfl ?_
    rcases pd_cases h with ⟨hb2, h⟩ | ⟨hb2, h⟩
    · rw [hb2]
      refine ev_gos pp_Re_next 1 (S' := (31, [some (.ref 1)], [.int (-1 : Int32)], (223, kc, ks, pd_H g v))) rfl ?_
      cases h
      exact ev_fin pp_Re_next rfl
    · rw [hb2]
      refine ev_gos pp_Re_next 4 (S' := (26, [some (.ref 1)], [.int (v 1 2), .ref 2], (223, kc, ks, pd_H g v))) rfl ?_
      obtain ⟨hc3, h⟩ := pd_chk h
      refine ev_iald pp_Re_next rfl (fun _ => rfl) hc3 ?_
      refine ev_gos pp_Re_next 1 (S' := (31, [some (.ref 1)], [.int (v 2 ((v 1 2).toNatClampNeg))], (223, kc, ks, pd_H g v))) rfl ?_
      cases h
      exact ev_fin pp_Re_next rfl
theorem pp_Ke_stepAt {xs : Nat → Int32} {L : Nat} : (pj_P xs L 15).1 = fun S => pm_look tb_Ke_stepAt S.1 S := rfl
def d_Ke_stepAt (l0 : Nat) (l1 : Int32) (v : pd_V) : Option Nat :=
  bif decide (l1 < 0) then
    bif pm_in (0 : Int32) 80 then
    some (l0 + 4 + (0 : Int32).toNatClampNeg)
    else none
  else
    bif decide ((80 : Int32) ≤ l1) then
      bif pm_in (0 : Int32) 80 then
      some (l0 + 4 + (0 : Int32).toNatClampNeg)
      else none
    else
      bif pm_in l1 80 then
      some (l0 + 4 + l1.toNatClampNeg)
      else none
theorem s_Ke_stepAt {l0 : Nat} {l1 : Int32} {v : pd_V} {q : Nat} (hl0 : ker l0) (h : d_Ke_stepAt l0 l1 v = some q) : pm_ev (pj_P xs L) d 15 (0, [some (.ref l0), some (.int l1)], [], (223, kc, ks, pd_H g v)) (.inl (some (.ref q)), (223, kc, ks, pd_H g v)) := by
  unfold d_Ke_stepAt at h
  refine ev_gos pp_Ke_stepAt 1 (S' := (1, [some (.ref l0), some (.int l1)], [.ref l0], (223, kc, ks, pd_H g v))) rfl ?_
  refine ev_get pp_Ke_stepAt rfl (c_ke hl0) rfl ?_
  refine ev_gos pp_Ke_stepAt 1 (S' := (5, [some (.ref l0), some (.int l1)], [.int l1, .ref (l0 + 1)], (223, kc, ks, pd_H g v))) rfl ?_
  refine ev_gos pp_Ke_stepAt 1 (S' := (bif decide (l1 < 0) then 18 else 8, [some (.ref l0), some (.int l1)], [.ref (l0 + 1)], (223, kc, ks, pd_H g v))) rfl ?_
  rcases pd_cases h with ⟨hb1, h⟩ | ⟨hb1, h⟩
  · rw [hb1]
    refine ev_gos pp_Ke_stepAt 1 (S' := (19, [some (.ref l0), some (.int l1)], [.int (0 : Int32), .ref (l0 + 1)], (223, kc, ks, pd_H g v))) rfl ?_
    obtain ⟨hc2, h⟩ := pd_chk h
    refine ev_aald pp_Ke_stepAt rfl hl0 hc2 ?_
    refine ev_gos pp_Ke_stepAt 0 (S' := (20, [some (.ref l0), some (.int l1)], [.ref (l0 + 4 + (0 : Int32).toNatClampNeg)], (223, kc, ks, pd_H g v))) rfl ?_
    cases h
    exact ev_fin pp_Ke_stepAt rfl
  · rw [hb1]
    refine ev_gos pp_Ke_stepAt 2 (S' := (11, [some (.ref l0), some (.int l1)], [.int (80 : Int32), .int l1, .ref (l0 + 1)], (223, kc, ks, pd_H g v))) rfl ?_
    refine ev_gos pp_Ke_stepAt 1 (S' := (bif decide ((80 : Int32) ≤ l1) then 18 else 14, [some (.ref l0), some (.int l1)], [.ref (l0 + 1)], (223, kc, ks, pd_H g v))) rfl ?_
    rcases pd_cases h with ⟨hb3, h⟩ | ⟨hb3, h⟩
    · rw [hb3]
      refine ev_gos pp_Ke_stepAt 1 (S' := (19, [some (.ref l0), some (.int l1)], [.int (0 : Int32), .ref (l0 + 1)], (223, kc, ks, pd_H g v))) rfl ?_
      obtain ⟨hc4, h⟩ := pd_chk h
      refine ev_aald pp_Ke_stepAt rfl hl0 hc4 ?_
      refine ev_gos pp_Ke_stepAt 0 (S' := (20, [some (.ref l0), some (.int l1)], [.ref (l0 + 4 + (0 : Int32).toNatClampNeg)], (223, kc, ks, pd_H g v))) rfl ?_
      cases h
      exact ev_fin pp_Ke_stepAt rfl
    · rw [hb3]
      refine ev_gos pp_Ke_stepAt 2 (S' := (19, [some (.ref l0), some (.int l1)], [.int l1, .ref (l0 + 1)], (223, kc, ks, pd_H g v))) rfl ?_
      obtain ⟨hc5, h⟩ := pd_chk h
      refine ev_aald pp_Ke_stepAt rfl hl0 hc5 ?_
      refine ev_gos pp_Ke_stepAt 0 (S' := (20, [some (.ref l0), some (.int l1)], [.ref (l0 + 4 + l1.toNatClampNeg)], (223, kc, ks, pd_H g v))) rfl ?_
      cases h
      exact ev_fin pp_Ke_stepAt rfl
theorem r_Ke_stepAt {l0 : Nat} {l1 : Int32} {v : pd_V} {q : Nat} (hl0 : ker l0) (h : d_Ke_stepAt l0 l1 v = some q) : stp q := by
  unfold d_Ke_stepAt at h
  rcases pd_cases h with ⟨hb1, h⟩ | ⟨hb1, h⟩
  · obtain ⟨hc2, h⟩ := pd_chk h
    cases h
    exact (stp_of hl0 hc2)
  · rcases pd_cases h with ⟨hb3, h⟩ | ⟨hb3, h⟩
    · obtain ⟨hc4, h⟩ := pd_chk h
      cases h
      exact (stp_of hl0 hc4)
    · obtain ⟨hc5, h⟩ := pd_chk h
      cases h
      exact (stp_of hl0 hc5)
theorem pp_Re_take {xs : Nat → Int32} {L : Nat} : (pj_P xs L 16).1 = fun S => pm_look tb_Re_take S.1 S := rfl
def d_Re_take (l1 : Int32) (v : pd_V) : Option (Int32 × pd_V) :=
  bif decide ((v 1 2) < 0) then
    some ((0 : Int32), v)
  else
    bif decide ((v 1 1) ≤ (v 1 2)) then
      some ((0 : Int32), v)
    else
      bif pm_in (v 1 2) 160 then
      bif decide ((v 2 ((v 1 2).toNatClampNeg)) = l1) then
        some ((1 : Int32), (pd_w v 1 2 ((v 1 2) + (1 : Int32))))
      else
        some ((0 : Int32), v)
      else none
theorem s_Re_take {l1 : Int32} {v : pd_V} {q : (Int32 × pd_V)}  (h : d_Re_take l1 v = some q) : pm_ev (pj_P xs L) d 16 (0, [some (.ref 1), some (.int l1)], [], (223, kc, ks, pd_H g v)) (.inl (some (.int q.1)), (223, kc, ks, pd_H g q.2)) := by
  unfold d_Re_take at h
  refine ev_gos pp_Re_take 2 (S' := (4, [some (.ref 1), some (.int l1)], [.int (v 1 2)], (223, kc, ks, pd_H g v))) rfl ?_
  refine ev_gos pp_Re_take 1 (S' := (bif decide ((v 1 2) < 0) then 31 else 7, [some (.ref 1), some (.int l1)], [], (223, kc, ks, pd_H g v))) rfl ?_
  rcases pd_cases h with ⟨hb1, h⟩ | ⟨hb1, h⟩
  · rw [hb1]
    refine ev_gos pp_Re_take 1 (S' := (32, [some (.ref 1), some (.int l1)], [.int (0 : Int32)], (223, kc, ks, pd_H g v))) rfl ?_
    cases h
    exact ev_zret pp_Re_take rfl pd_b0
  · rw [hb1]
    refine ev_gos pp_Re_take 4 (S' := (15, [some (.ref 1), some (.int l1)], [.int (v 1 1), .int (v 1 2)], (223, kc, ks, pd_H g v))) rfl ?_
    refine ev_gos pp_Re_take 1 (S' := (bif decide ((v 1 1) ≤ (v 1 2)) then 31 else 18, [some (.ref 1), some (.int l1)], [], (223, kc, ks, pd_H g v))) rfl ?_
    rcases pd_cases h with ⟨hb2, h⟩ | ⟨hb2, h⟩
    · rw [hb2]
      refine ev_gos pp_Re_take 1 (S' := (32, [some (.ref 1), some (.int l1)], [.int (0 : Int32)], (223, kc, ks, pd_H g v))) rfl ?_
      cases h
      exact ev_zret pp_Re_take rfl pd_b0
    · rw [hb2]
      refine ev_gos pp_Re_take 4 (S' := (26, [some (.ref 1), some (.int l1)], [.int (v 1 2), .ref 2], (223, kc, ks, pd_H g v))) rfl ?_
      obtain ⟨hc3, h⟩ := pd_chk h
      refine ev_iald pp_Re_take rfl (fun _ => rfl) hc3 ?_
      refine ev_gos pp_Re_take 1 (S' := (28, [some (.ref 1), some (.int l1)], [.int l1, .int (v 2 ((v 1 2).toNatClampNeg))], (223, kc, ks, pd_H g v))) rfl ?_
      refine ev_gos pp_Re_take 1 (S' := (bif decide ((v 2 ((v 1 2).toNatClampNeg)) = l1) then 33 else 31, [some (.ref 1), some (.int l1)], [], (223, kc, ks, pd_H g v))) rfl ?_
      rcases pd_cases h with ⟨hb4, h⟩ | ⟨hb4, h⟩
      · rw [hb4]
        refine ev_gos pp_Re_take 5 (S' := (40, [some (.ref 1), some (.int l1)], [.int ((v 1 2) + (1 : Int32)), .ref 1], (223, kc, ks, pd_H g v))) rfl ?_
        refine ev_put pp_Re_take rfl (fun _ => rfl) rfl rfl rfl ?_
        refine ev_gos pp_Re_take 1 (S' := (44, [some (.ref 1), some (.int l1)], [.int (1 : Int32)], (223, kc, ks, pd_H g (pd_w v 1 2 ((v 1 2) + (1 : Int32)))))) rfl ?_
        cases h
        exact ev_zret pp_Re_take rfl pd_b1
      · rw [hb4]
        refine ev_gos pp_Re_take 1 (S' := (32, [some (.ref 1), some (.int l1)], [.int (0 : Int32)], (223, kc, ks, pd_H g v))) rfl ?_
        cases h
        exact ev_zret pp_Re_take rfl pd_b0
theorem z_Re_take {l1 : Int32} {v : pd_V} {q : (Int32 × pd_V)}  (h : d_Re_take l1 v = some q) : (q.1 == 0 || q.1 == 1) = true := by
  unfold d_Re_take at h
  rcases pd_cases h with ⟨hb1, h⟩ | ⟨hb1, h⟩
  · cases h
    exact pd_b0
  · rcases pd_cases h with ⟨hb2, h⟩ | ⟨hb2, h⟩
    · cases h
      exact pd_b0
    · obtain ⟨hc3, h⟩ := pd_chk h
      rcases pd_cases h with ⟨hb4, h⟩ | ⟨hb4, h⟩
      · cases h
        exact pd_b1
      · cases h
        exact pd_b0
theorem pp_Mat_min {xs : Nat → Int32} {L : Nat} : (pj_P xs L 18).1 = fun S => pm_look tb_Mat_min S.1 S := rfl
def d_Mat_min (l0 : Int32) (l1 : Int32)  : Int32 :=
  bif decide (l1 < l0) then
    l1
  else
    l0
theorem s_Mat_min {l0 : Int32} {l1 : Int32} {v : pd_V}  : pm_ev (pj_P xs L) d 18 (0, [some (.int l0), some (.int l1)], [], (223, kc, ks, pd_H g v)) (.inl (some (.int (d_Mat_min l0 l1))), (223, kc, ks, pd_H g v)) := by
  unfold d_Mat_min
  refine ev_gos pp_Mat_min 2 (S' := (2, [some (.int l0), some (.int l1)], [.int l1, .int l0], (223, kc, ks, pd_H g v))) rfl ?_
  refine ev_gos pp_Mat_min 1 (S' := (bif decide (l1 < l0) then 9 else 5, [some (.int l0), some (.int l1)], [], (223, kc, ks, pd_H g v))) rfl ?_
  cases hb1 : (decide (l1 < l0))
  · refine ev_gos pp_Mat_min 2 (S' := (10, [some (.int l0), some (.int l1)], [.int l0], (223, kc, ks, pd_H g v))) rfl ?_
    exact ev_fin pp_Mat_min rfl
  · refine ev_gos pp_Mat_min 1 (S' := (10, [some (.int l0), some (.int l1)], [.int l1], (223, kc, ks, pd_H g v))) rfl ?_
    exact ev_fin pp_Mat_min rfl
theorem pp_St_set {xs : Nat → Int32} {L : Nat} : (pj_P xs L 19).1 = fun S => pm_look tb_St_set S.1 S := rfl
def d_St_set (l0 : Nat) (l1 : Int32) (l2 : Int32) (l3 : Int32) (v : pd_V) : Option pd_V :=
  some (pd_w (pd_w (pd_w (pd_w v l0 0 l1) l0 1 l2) l0 2 l3) l0 4 (0 : Int32))
theorem s_St_set {l0 : Nat} {l1 : Int32} {l2 : Int32} {l3 : Int32} {v : pd_V} {q : pd_V} (hl0 : stp l0) (h : d_St_set l0 l1 l2 l3 v = some q) : pm_ev (pj_P xs L) d 19 (0, [some (.ref l0), some (.int l1), some (.int l2), some (.int l3)], [], (223, kc, ks, pd_H g v)) (.inl none, (223, kc, ks, pd_H g q)) := by
  unfold d_St_set at h
  refine ev_gos pp_St_set 2 (S' := (2, [some (.ref l0), some (.int l1), some (.int l2), some (.int l3)], [.int l1, .ref l0], (223, kc, ks, pd_H g v))) rfl ?_
  refine ev_put pp_St_set rfl (c_st hl0) rfl rfl rfl ?_
  refine ev_gos pp_St_set 2 (S' := (7, [some (.ref l0), some (.int l1), some (.int l2), some (.int l3)], [.int l2, .ref l0], (223, kc, ks, pd_H g (pd_w v l0 0 l1)))) rfl ?_
  refine ev_put pp_St_set rfl (c_st hl0) rfl rfl rfl ?_
  refine ev_gos pp_St_set 2 (S' := (12, [some (.ref l0), some (.int l1), some (.int l2), some (.int l3)], [.int l3, .ref l0], (223, kc, ks, pd_H g (pd_w (pd_w v l0 0 l1) l0 1 l2)))) rfl ?_
  refine ev_put pp_St_set rfl (c_st hl0) rfl rfl rfl ?_
  refine ev_gos pp_St_set 2 (S' := (17, [some (.ref l0), some (.int l1), some (.int l2), some (.int l3)], [.int (0 : Int32), .ref l0], (223, kc, ks, pd_H g (pd_w (pd_w (pd_w v l0 0 l1) l0 1 l2) l0 2 l3)))) rfl ?_
  refine ev_put pp_St_set rfl (c_st hl0) rfl rfl rfl ?_
  refine ev_gos pp_St_set 0 (S' := (20, [some (.ref l0), some (.int l1), some (.int l2), some (.int l3)], [], (223, kc, ks, pd_H g (pd_w (pd_w (pd_w (pd_w v l0 0 l1) l0 1 l2) l0 2 l3) l0 4 (0 : Int32))))) rfl ?_
  cases h
  exact ev_fin pp_St_set rfl
theorem pp_Ke_addStep {xs : Nat → Int32} {L : Nat} : (pj_P xs L 17).1 = fun S => pm_look tb_Ke_addStep S.1 S := rfl
def d_Ke_addStep (l0 : Nat) (l1 : Int32) (l2 : Int32) (l3 : Int32) (v : pd_V) : Option (Nat × pd_V) :=
  bif pm_in (d_Mat_min (v l0 3) (79 : Int32)) 80 then
  (d_St_set (l0 + 4 + (d_Mat_min (v l0 3) (79 : Int32)).toNatClampNeg) l1 l2 l3 (pd_w v l0 3 ((d_Mat_min (v l0 3) (79 : Int32)) + (1 : Int32)))).bind fun q3 =>
  bif pm_in (d_Mat_min (v l0 3) (79 : Int32)) 80 then
  some ((l0 + 4 + (d_Mat_min (v l0 3) (79 : Int32)).toNatClampNeg), q3)
  else none
  else none
theorem s_Ke_addStep {l0 : Nat} {l1 : Int32} {l2 : Int32} {l3 : Int32} {v : pd_V} {q : (Nat × pd_V)} (hl0 : ker l0) (h : d_Ke_addStep l0 l1 l2 l3 v = some q) : pm_ev (pj_P xs L) (d + 1) 17 (0, [some (.ref l0), some (.int l1), some (.int l2), some (.int l3), none], [], (223, kc, ks, pd_H g v)) (.inl (some (.ref q.1)), (223, kc, ks, pd_H g q.2)) := by
  unfold d_Ke_addStep at h
  refine ev_gos pp_Ke_addStep 1 (S' := (1, [some (.ref l0), some (.int l1), some (.int l2), some (.int l3), none], [.ref l0], (223, kc, ks, pd_H g v))) rfl ?_
  refine ev_get pp_Ke_addStep rfl (c_ke hl0) rfl ?_
  refine ev_gos pp_Ke_addStep 1 (S' := (6, [some (.ref l0), some (.int l1), some (.int l2), some (.int l3), none], [.int (79 : Int32), .int (v l0 3)], (223, kc, ks, pd_H g v))) rfl ?_
  refine ev_call pp_Ke_addStep rfl rfl rfl (s_Mat_min) ?_
  refine ev_gos pp_Ke_addStep 5 (S' := (16, [some (.ref l0), some (.int l1), some (.int l2), some (.int l3), some (.int (d_Mat_min (v l0 3) (79 : Int32)))], [.int ((d_Mat_min (v l0 3) (79 : Int32)) + (1 : Int32)), .ref l0], (223, kc, ks, pd_H g v))) rfl ?_
  refine ev_put pp_Ke_addStep rfl (c_ke hl0) rfl rfl rfl ?_
  refine ev_gos pp_Ke_addStep 1 (S' := (20, [some (.ref l0), some (.int l1), some (.int l2), some (.int l3), some (.int (d_Mat_min (v l0 3) (79 : Int32)))], [.ref l0], (223, kc, ks, pd_H g (pd_w v l0 3 ((d_Mat_min (v l0 3) (79 : Int32)) + (1 : Int32)))))) rfl ?_
  refine ev_get pp_Ke_addStep rfl (c_ke hl0) rfl ?_
  refine ev_gos pp_Ke_addStep 1 (S' := (25, [some (.ref l0), some (.int l1), some (.int l2), some (.int l3), some (.int (d_Mat_min (v l0 3) (79 : Int32)))], [.int (d_Mat_min (v l0 3) (79 : Int32)), .ref (l0 + 1)], (223, kc, ks, pd_H g (pd_w v l0 3 ((d_Mat_min (v l0 3) (79 : Int32)) + (1 : Int32)))))) rfl ?_
  obtain ⟨hc2, h⟩ := pd_chk h
  refine ev_aald pp_Ke_addStep rfl hl0 hc2 ?_
  refine ev_gos pp_Ke_addStep 3 (S' := (29, [some (.ref l0), some (.int l1), some (.int l2), some (.int l3), some (.int (d_Mat_min (v l0 3) (79 : Int32)))], [.int l3, .int l2, .int l1, .ref (l0 + 4 + (d_Mat_min (v l0 3) (79 : Int32)).toNatClampNeg)], (223, kc, ks, pd_H g (pd_w v l0 3 ((d_Mat_min (v l0 3) (79 : Int32)) + (1 : Int32)))))) rfl ?_
  obtain ⟨q3, hq3, h⟩ := pd_bind h
  refine ev_callv pp_Ke_addStep rfl rfl (pd_isa (c_st (stp_of hl0 hc2))) rfl (s_St_set (stp_of hl0 hc2) hq3) ?_
  refine ev_gos pp_Ke_addStep 1 (S' := (33, [some (.ref l0), some (.int l1), some (.int l2), some (.int l3), some (.int (d_Mat_min (v l0 3) (79 : Int32)))], [.ref l0], (223, kc, ks, pd_H g q3))) rfl ?_
  refine ev_get pp_Ke_addStep rfl (c_ke hl0) rfl ?_
  refine ev_gos pp_Ke_addStep 1 (S' := (38, [some (.ref l0), some (.int l1), some (.int l2), some (.int l3), some (.int (d_Mat_min (v l0 3) (79 : Int32)))], [.int (d_Mat_min (v l0 3) (79 : Int32)), .ref (l0 + 1)], (223, kc, ks, pd_H g q3))) rfl ?_
  obtain ⟨hc4, h⟩ := pd_chk h
  refine ev_aald pp_Ke_addStep rfl hl0 hc4 ?_
  refine ev_gos pp_Ke_addStep 0 (S' := (39, [some (.ref l0), some (.int l1), some (.int l2), some (.int l3), some (.int (d_Mat_min (v l0 3) (79 : Int32)))], [.ref (l0 + 4 + (d_Mat_min (v l0 3) (79 : Int32)).toNatClampNeg)], (223, kc, ks, pd_H g q3))) rfl ?_
  cases h
  exact ev_fin pp_Ke_addStep rfl
theorem r_Ke_addStep {l0 : Nat} {l1 : Int32} {l2 : Int32} {l3 : Int32} {v : pd_V} {q : (Nat × pd_V)} (hl0 : ker l0) (h : d_Ke_addStep l0 l1 l2 l3 v = some q) : stp q.1 := by
  unfold d_Ke_addStep at h
  obtain ⟨hc2, h⟩ := pd_chk h
  obtain ⟨q3, hq3, h⟩ := pd_bind h
  obtain ⟨hc4, h⟩ := pd_chk h
  cases h
  exact (stp_of hl0 hc4)
theorem pp_Re_closeBlock {xs : Nat → Int32} {L : Nat} : (pj_P xs L 14).1 = fun S => pm_look tb_Re_closeBlock S.1 S := rfl
def d_Re_closeBlock  (v : pd_V) : Option pd_V :=
  bif decide ((v 1 5) < (1 : Int32)) then
    some v
  else
    bif decide ((v 1 5) ≤ (4 : Int32)) then
      bif pm_in ((v 1 5) - (1 : Int32)) 4 then
      (d_Ke_stepAt (kerOf (v 1 3)) (v 87 (((v 1 5) - (1 : Int32)).toNatClampNeg)) v).bind fun q4 =>
      bif !(decide (((pd_w v 1 2 ((v 1 2) + (1 : Int32))) q4 0) = (5 : Int32))) then
        bif !(decide (((pd_w (pd_w v 1 2 ((v 1 2) + (1 : Int32))) 1 5 ((v 1 5) - (1 : Int32))) q4 0) = (5 : Int32))) then
          (d_Ke_addStep (kerOf (v 1 3)) (9 : Int32) (v 1 2) ((v 1 5) - (1 : Int32)) (pd_w (pd_w v 1 2 ((v 1 2) + (1 : Int32))) 1 5 ((v 1 5) - (1 : Int32)))).bind fun q7 =>
          bif !(decide (((pd_w (pd_w q7.2 q7.1 4 (v 87 (((v 1 5) - (1 : Int32)).toNatClampNeg))) q4 3 (v (kerOf (v 1 3)) 3)) q4 4) = 0)) then
            (d_Ke_stepAt (kerOf ((pd_w (pd_w q7.2 q7.1 4 (v 87 (((v 1 5) - (1 : Int32)).toNatClampNeg))) q4 3 (v (kerOf (v 1 3)) 3)) 1 3)) ((pd_w (pd_w q7.2 q7.1 4 (v 87 (((v 1 5) - (1 : Int32)).toNatClampNeg))) q4 3 (v (kerOf (v 1 3)) 3)) q4 4) (pd_w (pd_w q7.2 q7.1 4 (v 87 (((v 1 5) - (1 : Int32)).toNatClampNeg))) q4 3 (v (kerOf (v 1 3)) 3))).bind fun q9 =>
            some (pd_w (pd_w (pd_w q7.2 q7.1 4 (v 87 (((v 1 5) - (1 : Int32)).toNatClampNeg))) q4 3 (v (kerOf (v 1 3)) 3)) q9 3 (v (kerOf (v 1 3)) 3))
          else
            some (pd_w (pd_w (pd_w q7.2 q7.1 4 (v 87 (((v 1 5) - (1 : Int32)).toNatClampNeg))) q4 3 (v (kerOf (v 1 3)) 3)) q4 4 (v (kerOf (v 1 3)) 3))
        else
          (d_Ke_addStep (kerOf (v 1 3)) (8 : Int32) (v 1 2) ((v 1 5) - (1 : Int32)) (pd_w (pd_w v 1 2 ((v 1 2) + (1 : Int32))) 1 5 ((v 1 5) - (1 : Int32)))).bind fun q10 =>
          bif !(decide (((pd_w (pd_w q10.2 q10.1 4 (v 87 (((v 1 5) - (1 : Int32)).toNatClampNeg))) q4 3 (v (kerOf (v 1 3)) 3)) q4 4) = 0)) then
            (d_Ke_stepAt (kerOf ((pd_w (pd_w q10.2 q10.1 4 (v 87 (((v 1 5) - (1 : Int32)).toNatClampNeg))) q4 3 (v (kerOf (v 1 3)) 3)) 1 3)) ((pd_w (pd_w q10.2 q10.1 4 (v 87 (((v 1 5) - (1 : Int32)).toNatClampNeg))) q4 3 (v (kerOf (v 1 3)) 3)) q4 4) (pd_w (pd_w q10.2 q10.1 4 (v 87 (((v 1 5) - (1 : Int32)).toNatClampNeg))) q4 3 (v (kerOf (v 1 3)) 3))).bind fun q12 =>
            some (pd_w (pd_w (pd_w q10.2 q10.1 4 (v 87 (((v 1 5) - (1 : Int32)).toNatClampNeg))) q4 3 (v (kerOf (v 1 3)) 3)) q12 3 (v (kerOf (v 1 3)) 3))
          else
            some (pd_w (pd_w (pd_w q10.2 q10.1 4 (v 87 (((v 1 5) - (1 : Int32)).toNatClampNeg))) q4 3 (v (kerOf (v 1 3)) 3)) q4 4 (v (kerOf (v 1 3)) 3))
      else
        bif !(decide (((pd_w v 1 2 ((v 1 2) + (1 : Int32))) q4 4) = 0)) then
          bif !(decide (((pd_w (pd_w v 1 2 ((v 1 2) + (1 : Int32))) 1 5 ((v 1 5) - (1 : Int32))) q4 0) = (5 : Int32))) then
            (d_Ke_addStep (kerOf (v 1 3)) (9 : Int32) (v 1 2) ((v 1 5) - (1 : Int32)) (pd_w (pd_w v 1 2 ((v 1 2) + (1 : Int32))) 1 5 ((v 1 5) - (1 : Int32)))).bind fun q15 =>
            bif !(decide (((pd_w (pd_w q15.2 q15.1 4 (v 87 (((v 1 5) - (1 : Int32)).toNatClampNeg))) q4 3 (v (kerOf (v 1 3)) 3)) q4 4) = 0)) then
              (d_Ke_stepAt (kerOf ((pd_w (pd_w q15.2 q15.1 4 (v 87 (((v 1 5) - (1 : Int32)).toNatClampNeg))) q4 3 (v (kerOf (v 1 3)) 3)) 1 3)) ((pd_w (pd_w q15.2 q15.1 4 (v 87 (((v 1 5) - (1 : Int32)).toNatClampNeg))) q4 3 (v (kerOf (v 1 3)) 3)) q4 4) (pd_w (pd_w q15.2 q15.1 4 (v 87 (((v 1 5) - (1 : Int32)).toNatClampNeg))) q4 3 (v (kerOf (v 1 3)) 3))).bind fun q17 =>
              some (pd_w (pd_w (pd_w q15.2 q15.1 4 (v 87 (((v 1 5) - (1 : Int32)).toNatClampNeg))) q4 3 (v (kerOf (v 1 3)) 3)) q17 3 (v (kerOf (v 1 3)) 3))
            else
              some (pd_w (pd_w (pd_w q15.2 q15.1 4 (v 87 (((v 1 5) - (1 : Int32)).toNatClampNeg))) q4 3 (v (kerOf (v 1 3)) 3)) q4 4 (v (kerOf (v 1 3)) 3))
          else
            (d_Ke_addStep (kerOf (v 1 3)) (8 : Int32) (v 1 2) ((v 1 5) - (1 : Int32)) (pd_w (pd_w v 1 2 ((v 1 2) + (1 : Int32))) 1 5 ((v 1 5) - (1 : Int32)))).bind fun q18 =>
            bif !(decide (((pd_w (pd_w q18.2 q18.1 4 (v 87 (((v 1 5) - (1 : Int32)).toNatClampNeg))) q4 3 (v (kerOf (v 1 3)) 3)) q4 4) = 0)) then
              (d_Ke_stepAt (kerOf ((pd_w (pd_w q18.2 q18.1 4 (v 87 (((v 1 5) - (1 : Int32)).toNatClampNeg))) q4 3 (v (kerOf (v 1 3)) 3)) 1 3)) ((pd_w (pd_w q18.2 q18.1 4 (v 87 (((v 1 5) - (1 : Int32)).toNatClampNeg))) q4 3 (v (kerOf (v 1 3)) 3)) q4 4) (pd_w (pd_w q18.2 q18.1 4 (v 87 (((v 1 5) - (1 : Int32)).toNatClampNeg))) q4 3 (v (kerOf (v 1 3)) 3))).bind fun q20 =>
              some (pd_w (pd_w (pd_w q18.2 q18.1 4 (v 87 (((v 1 5) - (1 : Int32)).toNatClampNeg))) q4 3 (v (kerOf (v 1 3)) 3)) q20 3 (v (kerOf (v 1 3)) 3))
            else
              some (pd_w (pd_w (pd_w q18.2 q18.1 4 (v 87 (((v 1 5) - (1 : Int32)).toNatClampNeg))) q4 3 (v (kerOf (v 1 3)) 3)) q4 4 (v (kerOf (v 1 3)) 3))
        else
          (d_Re_take (123 : Int32) (pd_w v 1 2 ((v 1 2) + (1 : Int32)))).bind fun q21 =>
          bif decide (q21.1 = 0) then
            bif !(decide (((pd_w q21.2 1 5 ((v 1 5) - (1 : Int32))) q4 0) = (5 : Int32))) then
              (d_Ke_addStep (kerOf (q21.2 1 3)) (9 : Int32) (v 1 2) ((v 1 5) - (1 : Int32)) (pd_w q21.2 1 5 ((v 1 5) - (1 : Int32)))).bind fun q24 =>
              bif !(decide (((pd_w (pd_w q24.2 q24.1 4 (v 87 (((v 1 5) - (1 : Int32)).toNatClampNeg))) q4 3 (v (kerOf (v 1 3)) 3)) q4 4) = 0)) then
                (d_Ke_stepAt (kerOf ((pd_w (pd_w q24.2 q24.1 4 (v 87 (((v 1 5) - (1 : Int32)).toNatClampNeg))) q4 3 (v (kerOf (v 1 3)) 3)) 1 3)) ((pd_w (pd_w q24.2 q24.1 4 (v 87 (((v 1 5) - (1 : Int32)).toNatClampNeg))) q4 3 (v (kerOf (v 1 3)) 3)) q4 4) (pd_w (pd_w q24.2 q24.1 4 (v 87 (((v 1 5) - (1 : Int32)).toNatClampNeg))) q4 3 (v (kerOf (v 1 3)) 3))).bind fun q26 =>
                some (pd_w (pd_w (pd_w q24.2 q24.1 4 (v 87 (((v 1 5) - (1 : Int32)).toNatClampNeg))) q4 3 (v (kerOf (v 1 3)) 3)) q26 3 (v (kerOf (v 1 3)) 3))
              else
                some (pd_w (pd_w (pd_w q24.2 q24.1 4 (v 87 (((v 1 5) - (1 : Int32)).toNatClampNeg))) q4 3 (v (kerOf (v 1 3)) 3)) q4 4 (v (kerOf (v 1 3)) 3))
            else
              (d_Ke_addStep (kerOf (q21.2 1 3)) (8 : Int32) (v 1 2) ((v 1 5) - (1 : Int32)) (pd_w q21.2 1 5 ((v 1 5) - (1 : Int32)))).bind fun q27 =>
              bif !(decide (((pd_w (pd_w q27.2 q27.1 4 (v 87 (((v 1 5) - (1 : Int32)).toNatClampNeg))) q4 3 (v (kerOf (v 1 3)) 3)) q4 4) = 0)) then
                (d_Ke_stepAt (kerOf ((pd_w (pd_w q27.2 q27.1 4 (v 87 (((v 1 5) - (1 : Int32)).toNatClampNeg))) q4 3 (v (kerOf (v 1 3)) 3)) 1 3)) ((pd_w (pd_w q27.2 q27.1 4 (v 87 (((v 1 5) - (1 : Int32)).toNatClampNeg))) q4 3 (v (kerOf (v 1 3)) 3)) q4 4) (pd_w (pd_w q27.2 q27.1 4 (v 87 (((v 1 5) - (1 : Int32)).toNatClampNeg))) q4 3 (v (kerOf (v 1 3)) 3))).bind fun q29 =>
                some (pd_w (pd_w (pd_w q27.2 q27.1 4 (v 87 (((v 1 5) - (1 : Int32)).toNatClampNeg))) q4 3 (v (kerOf (v 1 3)) 3)) q29 3 (v (kerOf (v 1 3)) 3))
              else
                some (pd_w (pd_w (pd_w q27.2 q27.1 4 (v 87 (((v 1 5) - (1 : Int32)).toNatClampNeg))) q4 3 (v (kerOf (v 1 3)) 3)) q4 4 (v (kerOf (v 1 3)) 3))
          else
            (d_Ke_addStep (kerOf (q21.2 1 3)) (7 : Int32) (v 1 2) ((v 1 5) - (1 : Int32)) q21.2).bind fun q30 =>
            some (pd_w q30.2 q4 4 (v (kerOf (v 1 3)) 3))
      else none
    else
      some v
theorem s_Re_closeBlock  {v : pd_V} {q : pd_V}  (h : d_Re_closeBlock v = some q) : pm_ev (pj_P xs L) (d + 2) 14 (0, [some (.ref 1), none, none, none, none, none], [], (223, kc, ks, pd_H g v)) (.inl none, (223, kc, ks, pd_H g q)) := by
  unfold d_Re_closeBlock at h
  refine ev_gos pp_Re_closeBlock 3 (S' := (5, [some (.ref 1), none, none, none, none, none], [.int (1 : Int32), .int (v 1 5)], (223, kc, ks, pd_H g v))) rfl ?_
  refine ev_gos pp_Re_closeBlock 1 (S' := (bif decide ((v 1 5) < (1 : Int32)) then 16 else 8, [some (.ref 1), none, none, none, none, none], [], (223, kc, ks, pd_H g v))) rfl ?_
  rcases pd_cases h with ⟨hb1, h⟩ | ⟨hb1, h⟩
  · rw [hb1]
    refine ev_gos pp_Re_closeBlock 0 (S' := (16, [some (.ref 1), none, none, none, none, none], [], (223, kc, ks, pd_H g v))) rfl ?_
    cases h
    exact ev_fin pp_Re_closeBlock rfl
  · rw [hb1]
    refine ev_gos pp_Re_closeBlock 3 (S' := (13, [some (.ref 1), none, none, none, none, none], [.int (4 : Int32), .int (v 1 5)], (223, kc, ks, pd_H g v))) rfl ?_
    refine ev_gos pp_Re_closeBlock 1 (S' := (bif decide ((v 1 5) ≤ (4 : Int32)) then 17 else 16, [some (.ref 1), none, none, none, none, none], [], (223, kc, ks, pd_H g v))) rfl ?_
    rcases pd_cases h with ⟨hb2, h⟩ | ⟨hb2, h⟩
    · rw [hb2]
      refine ev_gos pp_Re_closeBlock 8 (S' := (29, [some (.ref 1), some (.int ((v 1 5) - (1 : Int32))), none, none, none, none], [.int ((v 1 5) - (1 : Int32)), .ref 87], (223, kc, ks, pd_H g v))) rfl ?_
      obtain ⟨hc3, h⟩ := pd_chk h
      refine ev_iald pp_Re_closeBlock rfl (fun _ => rfl) hc3 ?_
      refine ev_gos pp_Re_closeBlock 4 (S' := (36, [some (.ref 1), some (.int ((v 1 5) - (1 : Int32))), some (.int (v 87 (((v 1 5) - (1 : Int32)).toNatClampNeg))), none, none, none], [.int (v 87 (((v 1 5) - (1 : Int32)).toNatClampNeg)), .ref (kerOf (v 1 3))], (223, kc, ks, pd_H g v))) rfl ?_
      obtain ⟨q4, hq4, h⟩ := pd_bind h
      refine ev_callv pp_Re_closeBlock rfl rfl (pd_isa (c_ke (ker_of _))) rfl (s_Ke_stepAt (ker_of _) hq4) ?_
      refine ev_gos pp_Re_closeBlock 3 (S' := (44, [some (.ref 1), some (.int ((v 1 5) - (1 : Int32))), some (.int (v 87 (((v 1 5) - (1 : Int32)).toNatClampNeg))), some (.ref q4), none, none], [.ref (kerOf (v 1 3))], (223, kc, ks, pd_H g v))) rfl ?_
      refine ev_get pp_Re_closeBlock rfl (c_ke (ker_of _)) rfl ?_
      refine ev_gos pp_Re_closeBlock 9 (S' := (62, [some (.ref 1), some (.int ((v 1 5) - (1 : Int32))), some (.int (v 87 (((v 1 5) - (1 : Int32)).toNatClampNeg))), some (.ref q4), some (.int (v (kerOf (v 1 3)) 3)), some (.int (v 1 2))], [.int ((v 1 2) + (1 : Int32)), .ref 1], (223, kc, ks, pd_H g v))) rfl ?_
      refine ev_put pp_Re_closeBlock rfl (fun _ => rfl) rfl rfl rfl ?_
      refine ev_gos pp_Re_closeBlock 1 (S' := (66, [some (.ref 1), some (.int ((v 1 5) - (1 : Int32))), some (.int (v 87 (((v 1 5) - (1 : Int32)).toNatClampNeg))), some (.ref q4), some (.int (v (kerOf (v 1 3)) 3)), some (.int (v 1 2))], [.ref q4], (223, kc, ks, pd_H g (pd_w v 1 2 ((v 1 2) + (1 : Int32)))))) rfl ?_
      refine ev_get pp_Re_closeBlock rfl (c_st (r_Ke_stepAt (ker_of _) hq4)) rfl ?_
      refine ev_gos pp_Re_closeBlock 1 (S' := (70, [some (.ref 1), some (.int ((v 1 5) - (1 : Int32))), some (.int (v 87 (((v 1 5) - (1 : Int32)).toNatClampNeg))), some (.ref q4), some (.int (v (kerOf (v 1 3)) 3)), some (.int (v 1 2))], [.int (5 : Int32), .int ((pd_w v 1 2 ((v 1 2) + (1 : Int32))) q4 0)], (223, kc, ks, pd_H g (pd_w v 1 2 ((v 1 2) + (1 : Int32)))))) rfl ?_
      refine ev_gos pp_Re_closeBlock 1 (S' := (bif !(decide (((pd_w v 1 2 ((v 1 2) + (1 : Int32))) q4 0) = (5 : Int32))) then 109 else 73, [some (.ref 1), some (.int ((v 1 5) - (1 : Int32))), some (.int (v 87 (((v 1 5) - (1 : Int32)).toNatClampNeg))), some (.ref q4), some (.int (v (kerOf (v 1 3)) 3)), some (.int (v 1 2))], [], (223, kc, ks, pd_H g (pd_w v 1 2 ((v 1 2) + (1 : Int32)))))) rfl ?_
      rcases pd_cases h with ⟨hb5, h⟩ | ⟨hb5, h⟩
      · rw [hb5]
        refine ev_gos pp_Re_closeBlock 2 (S' := (111, [some (.ref 1), some (.int ((v 1 5) - (1 : Int32))), some (.int (v 87 (((v 1 5) - (1 : Int32)).toNatClampNeg))), some (.ref q4), some (.int (v (kerOf (v 1 3)) 3)), some (.int (v 1 2))], [.int ((v 1 5) - (1 : Int32)), .ref 1], (223, kc, ks, pd_H g (pd_w v 1 2 ((v 1 2) + (1 : Int32)))))) rfl ?_
        refine ev_put pp_Re_closeBlock rfl (fun _ => rfl) rfl rfl rfl ?_
        refine ev_gos pp_Re_closeBlock 3 (S' := (119, [some (.ref 1), some (.int ((v 1 5) - (1 : Int32))), some (.int (v 87 (((v 1 5) - (1 : Int32)).toNatClampNeg))), some (.ref q4), some (.int (v (kerOf (v 1 3)) 3)), some (.int (v 1 2))], [.ref q4, .ref (kerOf (v 1 3))], (223, kc, ks, pd_H g (pd_w (pd_w v 1 2 ((v 1 2) + (1 : Int32))) 1 5 ((v 1 5) - (1 : Int32)))))) rfl ?_
        refine ev_get pp_Re_closeBlock rfl (c_st (r_Ke_stepAt (ker_of _) hq4)) rfl ?_
        refine ev_gos pp_Re_closeBlock 1 (S' := (123, [some (.ref 1), some (.int ((v 1 5) - (1 : Int32))), some (.int (v 87 (((v 1 5) - (1 : Int32)).toNatClampNeg))), some (.ref q4), some (.int (v (kerOf (v 1 3)) 3)), some (.int (v 1 2))], [.int (5 : Int32), .int ((pd_w (pd_w v 1 2 ((v 1 2) + (1 : Int32))) 1 5 ((v 1 5) - (1 : Int32))) q4 0), .ref (kerOf (v 1 3))], (223, kc, ks, pd_H g (pd_w (pd_w v 1 2 ((v 1 2) + (1 : Int32))) 1 5 ((v 1 5) - (1 : Int32)))))) rfl ?_
        refine ev_gos pp_Re_closeBlock 1 (S' := (bif !(decide (((pd_w (pd_w v 1 2 ((v 1 2) + (1 : Int32))) 1 5 ((v 1 5) - (1 : Int32))) q4 0) = (5 : Int32))) then 131 else 126, [some (.ref 1), some (.int ((v 1 5) - (1 : Int32))), some (.int (v 87 (((v 1 5) - (1 : Int32)).toNatClampNeg))), some (.ref q4), some (.int (v (kerOf (v 1 3)) 3)), some (.int (v 1 2))], [.ref (kerOf (v 1 3))], (223, kc, ks, pd_H g (pd_w (pd_w v 1 2 ((v 1 2) + (1 : Int32))) 1 5 ((v 1 5) - (1 : Int32)))))) rfl ?_
        rcases pd_cases h with ⟨hb6, h⟩ | ⟨hb6, h⟩
        · rw [hb6]
          refine ev_gos pp_Re_closeBlock 3 (S' := (136, [some (.ref 1), some (.int ((v 1 5) - (1 : Int32))), some (.int (v 87 (((v 1 5) - (1 : Int32)).toNatClampNeg))), some (.ref q4), some (.int (v (kerOf (v 1 3)) 3)), some (.int (v 1 2))], [.int ((v 1 5) - (1 : Int32)), .int (v 1 2), .int (9 : Int32), .ref (kerOf (v 1 3))], (223, kc, ks, pd_H g (pd_w (pd_w v 1 2 ((v 1 2) + (1 : Int32))) 1 5 ((v 1 5) - (1 : Int32)))))) rfl ?_
          obtain ⟨q7, hq7, h⟩ := pd_bind h
          refine ev_callv pp_Re_closeBlock rfl rfl (pd_isa (c_ke (ker_of _))) rfl (s_Ke_addStep (ker_of _) hq7) ?_
          refine ev_gos pp_Re_closeBlock 1 (S' := (140, [some (.ref 1), some (.int ((v 1 5) - (1 : Int32))), some (.int (v 87 (((v 1 5) - (1 : Int32)).toNatClampNeg))), some (.ref q4), some (.int (v (kerOf (v 1 3)) 3)), some (.int (v 1 2))], [.int (v 87 (((v 1 5) - (1 : Int32)).toNatClampNeg)), .ref q7.1], (223, kc, ks, pd_H g q7.2))) rfl ?_
          refine ev_put pp_Re_closeBlock rfl (c_st (r_Ke_addStep (ker_of _) hq7)) rfl rfl rfl ?_
          refine ev_gos pp_Re_closeBlock 2 (S' := (146, [some (.ref 1), some (.int ((v 1 5) - (1 : Int32))), some (.int (v 87 (((v 1 5) - (1 : Int32)).toNatClampNeg))), some (.ref q4), some (.int (v (kerOf (v 1 3)) 3)), some (.int (v 1 2))], [.int (v (kerOf (v 1 3)) 3), .ref q4], (223, kc, ks, pd_H g (pd_w q7.2 q7.1 4 (v 87 (((v 1 5) - (1 : Int32)).toNatClampNeg)))))) rfl ?_
          refine ev_put pp_Re_closeBlock rfl (c_st (r_Ke_stepAt (ker_of _) hq4)) rfl rfl rfl ?_
          refine ev_gos pp_Re_closeBlock 1 (S' := (150, [some (.ref 1), some (.int ((v 1 5) - (1 : Int32))), some (.int (v 87 (((v 1 5) - (1 : Int32)).toNatClampNeg))), some (.ref q4), some (.int (v (kerOf (v 1 3)) 3)), some (.int (v 1 2))], [.ref q4], (223, kc, ks, pd_H g (pd_w (pd_w q7.2 q7.1 4 (v 87 (((v 1 5) - (1 : Int32)).toNatClampNeg))) q4 3 (v (kerOf (v 1 3)) 3))))) rfl ?_
          refine ev_get pp_Re_closeBlock rfl (c_st (r_Ke_stepAt (ker_of _) hq4)) rfl ?_
          refine ev_gos pp_Re_closeBlock 0 (S' := (153, [some (.ref 1), some (.int ((v 1 5) - (1 : Int32))), some (.int (v 87 (((v 1 5) - (1 : Int32)).toNatClampNeg))), some (.ref q4), some (.int (v (kerOf (v 1 3)) 3)), some (.int (v 1 2))], [.int ((pd_w (pd_w q7.2 q7.1 4 (v 87 (((v 1 5) - (1 : Int32)).toNatClampNeg))) q4 3 (v (kerOf (v 1 3)) 3)) q4 4)], (223, kc, ks, pd_H g (pd_w (pd_w q7.2 q7.1 4 (v 87 (((v 1 5) - (1 : Int32)).toNatClampNeg))) q4 3 (v (kerOf (v 1 3)) 3))))) rfl ?_
          refine ev_gos pp_Re_closeBlock 1 (S' := (bif !(decide (((pd_w (pd_w q7.2 q7.1 4 (v 87 (((v 1 5) - (1 : Int32)).toNatClampNeg))) q4 3 (v (kerOf (v 1 3)) 3)) q4 4) = 0)) then 165 else 156, [some (.ref 1), some (.int ((v 1 5) - (1 : Int32))), some (.int (v 87 (((v 1 5) - (1 : Int32)).toNatClampNeg))), some (.ref q4), some (.int (v (kerOf (v 1 3)) 3)), some (.int (v 1 2))], [], (223, kc, ks, pd_H g (pd_w (pd_w q7.2 q7.1 4 (v 87 (((v 1 5) - (1 : Int32)).toNatClampNeg))) q4 3 (v (kerOf (v 1 3)) 3))))) rfl ?_
          rcases pd_cases h with ⟨hb8, h⟩ | ⟨hb8, h⟩
          · rw [hb8]
            refine ev_gos pp_Re_closeBlock 3 (S' := (170, [some (.ref 1), some (.int ((v 1 5) - (1 : Int32))), some (.int (v 87 (((v 1 5) - (1 : Int32)).toNatClampNeg))), some (.ref q4), some (.int (v (kerOf (v 1 3)) 3)), some (.int (v 1 2))], [.ref q4, .ref (kerOf ((pd_w (pd_w q7.2 q7.1 4 (v 87 (((v 1 5) - (1 : Int32)).toNatClampNeg))) q4 3 (v (kerOf (v 1 3)) 3)) 1 3))], (223, kc, ks, pd_H g (pd_w (pd_w q7.2 q7.1 4 (v 87 (((v 1 5) - (1 : Int32)).toNatClampNeg))) q4 3 (v (kerOf (v 1 3)) 3))))) rfl ?_
            refine ev_get pp_Re_closeBlock rfl (c_st (r_Ke_stepAt (ker_of _) hq4)) rfl ?_
            refine ev_gos pp_Re_closeBlock 0 (S' := (173, [some (.ref 1), some (.int ((v 1 5) - (1 : Int32))), some (.int (v 87 (((v 1 5) - (1 : Int32)).toNatClampNeg))), some (.ref q4), some (.int (v (kerOf (v 1 3)) 3)), some (.int (v 1 2))], [.int ((pd_w (pd_w q7.2 q7.1 4 (v 87 (((v 1 5) - (1 : Int32)).toNatClampNeg))) q4 3 (v (kerOf (v 1 3)) 3)) q4 4), .ref (kerOf ((pd_w (pd_w q7.2 q7.1 4 (v 87 (((v 1 5) - (1 : Int32)).toNatClampNeg))) q4 3 (v (kerOf (v 1 3)) 3)) 1 3))], (223, kc, ks, pd_H g (pd_w (pd_w q7.2 q7.1 4 (v 87 (((v 1 5) - (1 : Int32)).toNatClampNeg))) q4 3 (v (kerOf (v 1 3)) 3))))) rfl ?_
            obtain ⟨q9, hq9, h⟩ := pd_bind h
            refine ev_callv pp_Re_closeBlock rfl rfl (pd_isa (c_ke (ker_of _))) rfl (s_Ke_stepAt (ker_of _) hq9) ?_
            refine ev_gos pp_Re_closeBlock 1 (S' := (178, [some (.ref 1), some (.int ((v 1 5) - (1 : Int32))), some (.int (v 87 (((v 1 5) - (1 : Int32)).toNatClampNeg))), some (.ref q4), some (.int (v (kerOf (v 1 3)) 3)), some (.int (v 1 2))], [.int (v (kerOf (v 1 3)) 3), .ref q9], (223, kc, ks, pd_H g (pd_w (pd_w q7.2 q7.1 4 (v 87 (((v 1 5) - (1 : Int32)).toNatClampNeg))) q4 3 (v (kerOf (v 1 3)) 3))))) rfl ?_
            refine ev_put pp_Re_closeBlock rfl (c_st (r_Ke_stepAt (ker_of _) hq9)) rfl rfl rfl ?_
            refine ev_gos pp_Re_closeBlock 0 (S' := (181, [some (.ref 1), some (.int ((v 1 5) - (1 : Int32))), some (.int (v 87 (((v 1 5) - (1 : Int32)).toNatClampNeg))), some (.ref q4), some (.int (v (kerOf (v 1 3)) 3)), some (.int (v 1 2))], [], (223, kc, ks, pd_H g (pd_w (pd_w (pd_w q7.2 q7.1 4 (v 87 (((v 1 5) - (1 : Int32)).toNatClampNeg))) q4 3 (v (kerOf (v 1 3)) 3)) q9 3 (v (kerOf (v 1 3)) 3))))) rfl ?_
            cases h
            exact ev_fin pp_Re_closeBlock rfl
          · rw [hb8]
            refine ev_gos pp_Re_closeBlock 2 (S' := (159, [some (.ref 1), some (.int ((v 1 5) - (1 : Int32))), some (.int (v 87 (((v 1 5) - (1 : Int32)).toNatClampNeg))), some (.ref q4), some (.int (v (kerOf (v 1 3)) 3)), some (.int (v 1 2))], [.int (v (kerOf (v 1 3)) 3), .ref q4], (223, kc, ks, pd_H g (pd_w (pd_w q7.2 q7.1 4 (v 87 (((v 1 5) - (1 : Int32)).toNatClampNeg))) q4 3 (v (kerOf (v 1 3)) 3))))) rfl ?_
            refine ev_put pp_Re_closeBlock rfl (c_st (r_Ke_stepAt (ker_of _) hq4)) rfl rfl rfl ?_
            refine ev_gos pp_Re_closeBlock 1 (S' := (181, [some (.ref 1), some (.int ((v 1 5) - (1 : Int32))), some (.int (v 87 (((v 1 5) - (1 : Int32)).toNatClampNeg))), some (.ref q4), some (.int (v (kerOf (v 1 3)) 3)), some (.int (v 1 2))], [], (223, kc, ks, pd_H g (pd_w (pd_w (pd_w q7.2 q7.1 4 (v 87 (((v 1 5) - (1 : Int32)).toNatClampNeg))) q4 3 (v (kerOf (v 1 3)) 3)) q4 4 (v (kerOf (v 1 3)) 3))))) rfl ?_
            cases h
            exact ev_fin pp_Re_closeBlock rfl
        · rw [hb6]
          refine ev_gos pp_Re_closeBlock 4 (S' := (136, [some (.ref 1), some (.int ((v 1 5) - (1 : Int32))), some (.int (v 87 (((v 1 5) - (1 : Int32)).toNatClampNeg))), some (.ref q4), some (.int (v (kerOf (v 1 3)) 3)), some (.int (v 1 2))], [.int ((v 1 5) - (1 : Int32)), .int (v 1 2), .int (8 : Int32), .ref (kerOf (v 1 3))], (223, kc, ks, pd_H g (pd_w (pd_w v 1 2 ((v 1 2) + (1 : Int32))) 1 5 ((v 1 5) - (1 : Int32)))))) rfl ?_
          obtain ⟨q10, hq10, h⟩ := pd_bind h
          refine ev_callv pp_Re_closeBlock rfl rfl (pd_isa (c_ke (ker_of _))) rfl (s_Ke_addStep (ker_of _) hq10) ?_
          refine ev_gos pp_Re_closeBlock 1 (S' := (140, [some (.ref 1), some (.int ((v 1 5) - (1 : Int32))), some (.int (v 87 (((v 1 5) - (1 : Int32)).toNatClampNeg))), some (.ref q4), some (.int (v (kerOf (v 1 3)) 3)), some (.int (v 1 2))], [.int (v 87 (((v 1 5) - (1 : Int32)).toNatClampNeg)), .ref q10.1], (223, kc, ks, pd_H g q10.2))) rfl ?_
          refine ev_put pp_Re_closeBlock rfl (c_st (r_Ke_addStep (ker_of _) hq10)) rfl rfl rfl ?_
          refine ev_gos pp_Re_closeBlock 2 (S' := (146, [some (.ref 1), some (.int ((v 1 5) - (1 : Int32))), some (.int (v 87 (((v 1 5) - (1 : Int32)).toNatClampNeg))), some (.ref q4), some (.int (v (kerOf (v 1 3)) 3)), some (.int (v 1 2))], [.int (v (kerOf (v 1 3)) 3), .ref q4], (223, kc, ks, pd_H g (pd_w q10.2 q10.1 4 (v 87 (((v 1 5) - (1 : Int32)).toNatClampNeg)))))) rfl ?_
          refine ev_put pp_Re_closeBlock rfl (c_st (r_Ke_stepAt (ker_of _) hq4)) rfl rfl rfl ?_
          refine ev_gos pp_Re_closeBlock 1 (S' := (150, [some (.ref 1), some (.int ((v 1 5) - (1 : Int32))), some (.int (v 87 (((v 1 5) - (1 : Int32)).toNatClampNeg))), some (.ref q4), some (.int (v (kerOf (v 1 3)) 3)), some (.int (v 1 2))], [.ref q4], (223, kc, ks, pd_H g (pd_w (pd_w q10.2 q10.1 4 (v 87 (((v 1 5) - (1 : Int32)).toNatClampNeg))) q4 3 (v (kerOf (v 1 3)) 3))))) rfl ?_
          refine ev_get pp_Re_closeBlock rfl (c_st (r_Ke_stepAt (ker_of _) hq4)) rfl ?_
          refine ev_gos pp_Re_closeBlock 0 (S' := (153, [some (.ref 1), some (.int ((v 1 5) - (1 : Int32))), some (.int (v 87 (((v 1 5) - (1 : Int32)).toNatClampNeg))), some (.ref q4), some (.int (v (kerOf (v 1 3)) 3)), some (.int (v 1 2))], [.int ((pd_w (pd_w q10.2 q10.1 4 (v 87 (((v 1 5) - (1 : Int32)).toNatClampNeg))) q4 3 (v (kerOf (v 1 3)) 3)) q4 4)], (223, kc, ks, pd_H g (pd_w (pd_w q10.2 q10.1 4 (v 87 (((v 1 5) - (1 : Int32)).toNatClampNeg))) q4 3 (v (kerOf (v 1 3)) 3))))) rfl ?_
          refine ev_gos pp_Re_closeBlock 1 (S' := (bif !(decide (((pd_w (pd_w q10.2 q10.1 4 (v 87 (((v 1 5) - (1 : Int32)).toNatClampNeg))) q4 3 (v (kerOf (v 1 3)) 3)) q4 4) = 0)) then 165 else 156, [some (.ref 1), some (.int ((v 1 5) - (1 : Int32))), some (.int (v 87 (((v 1 5) - (1 : Int32)).toNatClampNeg))), some (.ref q4), some (.int (v (kerOf (v 1 3)) 3)), some (.int (v 1 2))], [], (223, kc, ks, pd_H g (pd_w (pd_w q10.2 q10.1 4 (v 87 (((v 1 5) - (1 : Int32)).toNatClampNeg))) q4 3 (v (kerOf (v 1 3)) 3))))) rfl ?_
          rcases pd_cases h with ⟨hb11, h⟩ | ⟨hb11, h⟩
          · rw [hb11]
            refine ev_gos pp_Re_closeBlock 3 (S' := (170, [some (.ref 1), some (.int ((v 1 5) - (1 : Int32))), some (.int (v 87 (((v 1 5) - (1 : Int32)).toNatClampNeg))), some (.ref q4), some (.int (v (kerOf (v 1 3)) 3)), some (.int (v 1 2))], [.ref q4, .ref (kerOf ((pd_w (pd_w q10.2 q10.1 4 (v 87 (((v 1 5) - (1 : Int32)).toNatClampNeg))) q4 3 (v (kerOf (v 1 3)) 3)) 1 3))], (223, kc, ks, pd_H g (pd_w (pd_w q10.2 q10.1 4 (v 87 (((v 1 5) - (1 : Int32)).toNatClampNeg))) q4 3 (v (kerOf (v 1 3)) 3))))) rfl ?_
            refine ev_get pp_Re_closeBlock rfl (c_st (r_Ke_stepAt (ker_of _) hq4)) rfl ?_
            refine ev_gos pp_Re_closeBlock 0 (S' := (173, [some (.ref 1), some (.int ((v 1 5) - (1 : Int32))), some (.int (v 87 (((v 1 5) - (1 : Int32)).toNatClampNeg))), some (.ref q4), some (.int (v (kerOf (v 1 3)) 3)), some (.int (v 1 2))], [.int ((pd_w (pd_w q10.2 q10.1 4 (v 87 (((v 1 5) - (1 : Int32)).toNatClampNeg))) q4 3 (v (kerOf (v 1 3)) 3)) q4 4), .ref (kerOf ((pd_w (pd_w q10.2 q10.1 4 (v 87 (((v 1 5) - (1 : Int32)).toNatClampNeg))) q4 3 (v (kerOf (v 1 3)) 3)) 1 3))], (223, kc, ks, pd_H g (pd_w (pd_w q10.2 q10.1 4 (v 87 (((v 1 5) - (1 : Int32)).toNatClampNeg))) q4 3 (v (kerOf (v 1 3)) 3))))) rfl ?_
            obtain ⟨q12, hq12, h⟩ := pd_bind h
            refine ev_callv pp_Re_closeBlock rfl rfl (pd_isa (c_ke (ker_of _))) rfl (s_Ke_stepAt (ker_of _) hq12) ?_
            refine ev_gos pp_Re_closeBlock 1 (S' := (178, [some (.ref 1), some (.int ((v 1 5) - (1 : Int32))), some (.int (v 87 (((v 1 5) - (1 : Int32)).toNatClampNeg))), some (.ref q4), some (.int (v (kerOf (v 1 3)) 3)), some (.int (v 1 2))], [.int (v (kerOf (v 1 3)) 3), .ref q12], (223, kc, ks, pd_H g (pd_w (pd_w q10.2 q10.1 4 (v 87 (((v 1 5) - (1 : Int32)).toNatClampNeg))) q4 3 (v (kerOf (v 1 3)) 3))))) rfl ?_
            refine ev_put pp_Re_closeBlock rfl (c_st (r_Ke_stepAt (ker_of _) hq12)) rfl rfl rfl ?_
            refine ev_gos pp_Re_closeBlock 0 (S' := (181, [some (.ref 1), some (.int ((v 1 5) - (1 : Int32))), some (.int (v 87 (((v 1 5) - (1 : Int32)).toNatClampNeg))), some (.ref q4), some (.int (v (kerOf (v 1 3)) 3)), some (.int (v 1 2))], [], (223, kc, ks, pd_H g (pd_w (pd_w (pd_w q10.2 q10.1 4 (v 87 (((v 1 5) - (1 : Int32)).toNatClampNeg))) q4 3 (v (kerOf (v 1 3)) 3)) q12 3 (v (kerOf (v 1 3)) 3))))) rfl ?_
            cases h
            exact ev_fin pp_Re_closeBlock rfl
          · rw [hb11]
            refine ev_gos pp_Re_closeBlock 2 (S' := (159, [some (.ref 1), some (.int ((v 1 5) - (1 : Int32))), some (.int (v 87 (((v 1 5) - (1 : Int32)).toNatClampNeg))), some (.ref q4), some (.int (v (kerOf (v 1 3)) 3)), some (.int (v 1 2))], [.int (v (kerOf (v 1 3)) 3), .ref q4], (223, kc, ks, pd_H g (pd_w (pd_w q10.2 q10.1 4 (v 87 (((v 1 5) - (1 : Int32)).toNatClampNeg))) q4 3 (v (kerOf (v 1 3)) 3))))) rfl ?_
            refine ev_put pp_Re_closeBlock rfl (c_st (r_Ke_stepAt (ker_of _) hq4)) rfl rfl rfl ?_
            refine ev_gos pp_Re_closeBlock 1 (S' := (181, [some (.ref 1), some (.int ((v 1 5) - (1 : Int32))), some (.int (v 87 (((v 1 5) - (1 : Int32)).toNatClampNeg))), some (.ref q4), some (.int (v (kerOf (v 1 3)) 3)), some (.int (v 1 2))], [], (223, kc, ks, pd_H g (pd_w (pd_w (pd_w q10.2 q10.1 4 (v 87 (((v 1 5) - (1 : Int32)).toNatClampNeg))) q4 3 (v (kerOf (v 1 3)) 3)) q4 4 (v (kerOf (v 1 3)) 3))))) rfl ?_
            cases h
            exact ev_fin pp_Re_closeBlock rfl
      · rw [hb5]
        refine ev_gos pp_Re_closeBlock 1 (S' := (74, [some (.ref 1), some (.int ((v 1 5) - (1 : Int32))), some (.int (v 87 (((v 1 5) - (1 : Int32)).toNatClampNeg))), some (.ref q4), some (.int (v (kerOf (v 1 3)) 3)), some (.int (v 1 2))], [.ref q4], (223, kc, ks, pd_H g (pd_w v 1 2 ((v 1 2) + (1 : Int32)))))) rfl ?_
        refine ev_get pp_Re_closeBlock rfl (c_st (r_Ke_stepAt (ker_of _) hq4)) rfl ?_
        refine ev_gos pp_Re_closeBlock 0 (S' := (77, [some (.ref 1), some (.int ((v 1 5) - (1 : Int32))), some (.int (v 87 (((v 1 5) - (1 : Int32)).toNatClampNeg))), some (.ref q4), some (.int (v (kerOf (v 1 3)) 3)), some (.int (v 1 2))], [.int ((pd_w v 1 2 ((v 1 2) + (1 : Int32))) q4 4)], (223, kc, ks, pd_H g (pd_w v 1 2 ((v 1 2) + (1 : Int32)))))) rfl ?_
        refine ev_gos pp_Re_closeBlock 1 (S' := (bif !(decide (((pd_w v 1 2 ((v 1 2) + (1 : Int32))) q4 4) = 0)) then 109 else 80, [some (.ref 1), some (.int ((v 1 5) - (1 : Int32))), some (.int (v 87 (((v 1 5) - (1 : Int32)).toNatClampNeg))), some (.ref q4), some (.int (v (kerOf (v 1 3)) 3)), some (.int (v 1 2))], [], (223, kc, ks, pd_H g (pd_w v 1 2 ((v 1 2) + (1 : Int32)))))) rfl ?_
        rcases pd_cases h with ⟨hb13, h⟩ | ⟨hb13, h⟩
        · rw [hb13]
          refine ev_gos pp_Re_closeBlock 2 (S' := (111, [some (.ref 1), some (.int ((v 1 5) - (1 : Int32))), some (.int (v 87 (((v 1 5) - (1 : Int32)).toNatClampNeg))), some (.ref q4), some (.int (v (kerOf (v 1 3)) 3)), some (.int (v 1 2))], [.int ((v 1 5) - (1 : Int32)), .ref 1], (223, kc, ks, pd_H g (pd_w v 1 2 ((v 1 2) + (1 : Int32)))))) rfl ?_
          refine ev_put pp_Re_closeBlock rfl (fun _ => rfl) rfl rfl rfl ?_
          refine ev_gos pp_Re_closeBlock 3 (S' := (119, [some (.ref 1), some (.int ((v 1 5) - (1 : Int32))), some (.int (v 87 (((v 1 5) - (1 : Int32)).toNatClampNeg))), some (.ref q4), some (.int (v (kerOf (v 1 3)) 3)), some (.int (v 1 2))], [.ref q4, .ref (kerOf (v 1 3))], (223, kc, ks, pd_H g (pd_w (pd_w v 1 2 ((v 1 2) + (1 : Int32))) 1 5 ((v 1 5) - (1 : Int32)))))) rfl ?_
          refine ev_get pp_Re_closeBlock rfl (c_st (r_Ke_stepAt (ker_of _) hq4)) rfl ?_
          refine ev_gos pp_Re_closeBlock 1 (S' := (123, [some (.ref 1), some (.int ((v 1 5) - (1 : Int32))), some (.int (v 87 (((v 1 5) - (1 : Int32)).toNatClampNeg))), some (.ref q4), some (.int (v (kerOf (v 1 3)) 3)), some (.int (v 1 2))], [.int (5 : Int32), .int ((pd_w (pd_w v 1 2 ((v 1 2) + (1 : Int32))) 1 5 ((v 1 5) - (1 : Int32))) q4 0), .ref (kerOf (v 1 3))], (223, kc, ks, pd_H g (pd_w (pd_w v 1 2 ((v 1 2) + (1 : Int32))) 1 5 ((v 1 5) - (1 : Int32)))))) rfl ?_
          refine ev_gos pp_Re_closeBlock 1 (S' := (bif !(decide (((pd_w (pd_w v 1 2 ((v 1 2) + (1 : Int32))) 1 5 ((v 1 5) - (1 : Int32))) q4 0) = (5 : Int32))) then 131 else 126, [some (.ref 1), some (.int ((v 1 5) - (1 : Int32))), some (.int (v 87 (((v 1 5) - (1 : Int32)).toNatClampNeg))), some (.ref q4), some (.int (v (kerOf (v 1 3)) 3)), some (.int (v 1 2))], [.ref (kerOf (v 1 3))], (223, kc, ks, pd_H g (pd_w (pd_w v 1 2 ((v 1 2) + (1 : Int32))) 1 5 ((v 1 5) - (1 : Int32)))))) rfl ?_
          rcases pd_cases h with ⟨hb14, h⟩ | ⟨hb14, h⟩
          · rw [hb14]
            refine ev_gos pp_Re_closeBlock 3 (S' := (136, [some (.ref 1), some (.int ((v 1 5) - (1 : Int32))), some (.int (v 87 (((v 1 5) - (1 : Int32)).toNatClampNeg))), some (.ref q4), some (.int (v (kerOf (v 1 3)) 3)), some (.int (v 1 2))], [.int ((v 1 5) - (1 : Int32)), .int (v 1 2), .int (9 : Int32), .ref (kerOf (v 1 3))], (223, kc, ks, pd_H g (pd_w (pd_w v 1 2 ((v 1 2) + (1 : Int32))) 1 5 ((v 1 5) - (1 : Int32)))))) rfl ?_
            obtain ⟨q15, hq15, h⟩ := pd_bind h
            refine ev_callv pp_Re_closeBlock rfl rfl (pd_isa (c_ke (ker_of _))) rfl (s_Ke_addStep (ker_of _) hq15) ?_
            refine ev_gos pp_Re_closeBlock 1 (S' := (140, [some (.ref 1), some (.int ((v 1 5) - (1 : Int32))), some (.int (v 87 (((v 1 5) - (1 : Int32)).toNatClampNeg))), some (.ref q4), some (.int (v (kerOf (v 1 3)) 3)), some (.int (v 1 2))], [.int (v 87 (((v 1 5) - (1 : Int32)).toNatClampNeg)), .ref q15.1], (223, kc, ks, pd_H g q15.2))) rfl ?_
            refine ev_put pp_Re_closeBlock rfl (c_st (r_Ke_addStep (ker_of _) hq15)) rfl rfl rfl ?_
            refine ev_gos pp_Re_closeBlock 2 (S' := (146, [some (.ref 1), some (.int ((v 1 5) - (1 : Int32))), some (.int (v 87 (((v 1 5) - (1 : Int32)).toNatClampNeg))), some (.ref q4), some (.int (v (kerOf (v 1 3)) 3)), some (.int (v 1 2))], [.int (v (kerOf (v 1 3)) 3), .ref q4], (223, kc, ks, pd_H g (pd_w q15.2 q15.1 4 (v 87 (((v 1 5) - (1 : Int32)).toNatClampNeg)))))) rfl ?_
            refine ev_put pp_Re_closeBlock rfl (c_st (r_Ke_stepAt (ker_of _) hq4)) rfl rfl rfl ?_
            refine ev_gos pp_Re_closeBlock 1 (S' := (150, [some (.ref 1), some (.int ((v 1 5) - (1 : Int32))), some (.int (v 87 (((v 1 5) - (1 : Int32)).toNatClampNeg))), some (.ref q4), some (.int (v (kerOf (v 1 3)) 3)), some (.int (v 1 2))], [.ref q4], (223, kc, ks, pd_H g (pd_w (pd_w q15.2 q15.1 4 (v 87 (((v 1 5) - (1 : Int32)).toNatClampNeg))) q4 3 (v (kerOf (v 1 3)) 3))))) rfl ?_
            refine ev_get pp_Re_closeBlock rfl (c_st (r_Ke_stepAt (ker_of _) hq4)) rfl ?_
            refine ev_gos pp_Re_closeBlock 0 (S' := (153, [some (.ref 1), some (.int ((v 1 5) - (1 : Int32))), some (.int (v 87 (((v 1 5) - (1 : Int32)).toNatClampNeg))), some (.ref q4), some (.int (v (kerOf (v 1 3)) 3)), some (.int (v 1 2))], [.int ((pd_w (pd_w q15.2 q15.1 4 (v 87 (((v 1 5) - (1 : Int32)).toNatClampNeg))) q4 3 (v (kerOf (v 1 3)) 3)) q4 4)], (223, kc, ks, pd_H g (pd_w (pd_w q15.2 q15.1 4 (v 87 (((v 1 5) - (1 : Int32)).toNatClampNeg))) q4 3 (v (kerOf (v 1 3)) 3))))) rfl ?_
            refine ev_gos pp_Re_closeBlock 1 (S' := (bif !(decide (((pd_w (pd_w q15.2 q15.1 4 (v 87 (((v 1 5) - (1 : Int32)).toNatClampNeg))) q4 3 (v (kerOf (v 1 3)) 3)) q4 4) = 0)) then 165 else 156, [some (.ref 1), some (.int ((v 1 5) - (1 : Int32))), some (.int (v 87 (((v 1 5) - (1 : Int32)).toNatClampNeg))), some (.ref q4), some (.int (v (kerOf (v 1 3)) 3)), some (.int (v 1 2))], [], (223, kc, ks, pd_H g (pd_w (pd_w q15.2 q15.1 4 (v 87 (((v 1 5) - (1 : Int32)).toNatClampNeg))) q4 3 (v (kerOf (v 1 3)) 3))))) rfl ?_
            rcases pd_cases h with ⟨hb16, h⟩ | ⟨hb16, h⟩
            · rw [hb16]
              refine ev_gos pp_Re_closeBlock 3 (S' := (170, [some (.ref 1), some (.int ((v 1 5) - (1 : Int32))), some (.int (v 87 (((v 1 5) - (1 : Int32)).toNatClampNeg))), some (.ref q4), some (.int (v (kerOf (v 1 3)) 3)), some (.int (v 1 2))], [.ref q4, .ref (kerOf ((pd_w (pd_w q15.2 q15.1 4 (v 87 (((v 1 5) - (1 : Int32)).toNatClampNeg))) q4 3 (v (kerOf (v 1 3)) 3)) 1 3))], (223, kc, ks, pd_H g (pd_w (pd_w q15.2 q15.1 4 (v 87 (((v 1 5) - (1 : Int32)).toNatClampNeg))) q4 3 (v (kerOf (v 1 3)) 3))))) rfl ?_
              refine ev_get pp_Re_closeBlock rfl (c_st (r_Ke_stepAt (ker_of _) hq4)) rfl ?_
              refine ev_gos pp_Re_closeBlock 0 (S' := (173, [some (.ref 1), some (.int ((v 1 5) - (1 : Int32))), some (.int (v 87 (((v 1 5) - (1 : Int32)).toNatClampNeg))), some (.ref q4), some (.int (v (kerOf (v 1 3)) 3)), some (.int (v 1 2))], [.int ((pd_w (pd_w q15.2 q15.1 4 (v 87 (((v 1 5) - (1 : Int32)).toNatClampNeg))) q4 3 (v (kerOf (v 1 3)) 3)) q4 4), .ref (kerOf ((pd_w (pd_w q15.2 q15.1 4 (v 87 (((v 1 5) - (1 : Int32)).toNatClampNeg))) q4 3 (v (kerOf (v 1 3)) 3)) 1 3))], (223, kc, ks, pd_H g (pd_w (pd_w q15.2 q15.1 4 (v 87 (((v 1 5) - (1 : Int32)).toNatClampNeg))) q4 3 (v (kerOf (v 1 3)) 3))))) rfl ?_
              obtain ⟨q17, hq17, h⟩ := pd_bind h
              refine ev_callv pp_Re_closeBlock rfl rfl (pd_isa (c_ke (ker_of _))) rfl (s_Ke_stepAt (ker_of _) hq17) ?_
              refine ev_gos pp_Re_closeBlock 1 (S' := (178, [some (.ref 1), some (.int ((v 1 5) - (1 : Int32))), some (.int (v 87 (((v 1 5) - (1 : Int32)).toNatClampNeg))), some (.ref q4), some (.int (v (kerOf (v 1 3)) 3)), some (.int (v 1 2))], [.int (v (kerOf (v 1 3)) 3), .ref q17], (223, kc, ks, pd_H g (pd_w (pd_w q15.2 q15.1 4 (v 87 (((v 1 5) - (1 : Int32)).toNatClampNeg))) q4 3 (v (kerOf (v 1 3)) 3))))) rfl ?_
              refine ev_put pp_Re_closeBlock rfl (c_st (r_Ke_stepAt (ker_of _) hq17)) rfl rfl rfl ?_
              refine ev_gos pp_Re_closeBlock 0 (S' := (181, [some (.ref 1), some (.int ((v 1 5) - (1 : Int32))), some (.int (v 87 (((v 1 5) - (1 : Int32)).toNatClampNeg))), some (.ref q4), some (.int (v (kerOf (v 1 3)) 3)), some (.int (v 1 2))], [], (223, kc, ks, pd_H g (pd_w (pd_w (pd_w q15.2 q15.1 4 (v 87 (((v 1 5) - (1 : Int32)).toNatClampNeg))) q4 3 (v (kerOf (v 1 3)) 3)) q17 3 (v (kerOf (v 1 3)) 3))))) rfl ?_
              cases h
              exact ev_fin pp_Re_closeBlock rfl
            · rw [hb16]
              refine ev_gos pp_Re_closeBlock 2 (S' := (159, [some (.ref 1), some (.int ((v 1 5) - (1 : Int32))), some (.int (v 87 (((v 1 5) - (1 : Int32)).toNatClampNeg))), some (.ref q4), some (.int (v (kerOf (v 1 3)) 3)), some (.int (v 1 2))], [.int (v (kerOf (v 1 3)) 3), .ref q4], (223, kc, ks, pd_H g (pd_w (pd_w q15.2 q15.1 4 (v 87 (((v 1 5) - (1 : Int32)).toNatClampNeg))) q4 3 (v (kerOf (v 1 3)) 3))))) rfl ?_
              refine ev_put pp_Re_closeBlock rfl (c_st (r_Ke_stepAt (ker_of _) hq4)) rfl rfl rfl ?_
              refine ev_gos pp_Re_closeBlock 1 (S' := (181, [some (.ref 1), some (.int ((v 1 5) - (1 : Int32))), some (.int (v 87 (((v 1 5) - (1 : Int32)).toNatClampNeg))), some (.ref q4), some (.int (v (kerOf (v 1 3)) 3)), some (.int (v 1 2))], [], (223, kc, ks, pd_H g (pd_w (pd_w (pd_w q15.2 q15.1 4 (v 87 (((v 1 5) - (1 : Int32)).toNatClampNeg))) q4 3 (v (kerOf (v 1 3)) 3)) q4 4 (v (kerOf (v 1 3)) 3))))) rfl ?_
              cases h
              exact ev_fin pp_Re_closeBlock rfl
          · rw [hb14]
            refine ev_gos pp_Re_closeBlock 4 (S' := (136, [some (.ref 1), some (.int ((v 1 5) - (1 : Int32))), some (.int (v 87 (((v 1 5) - (1 : Int32)).toNatClampNeg))), some (.ref q4), some (.int (v (kerOf (v 1 3)) 3)), some (.int (v 1 2))], [.int ((v 1 5) - (1 : Int32)), .int (v 1 2), .int (8 : Int32), .ref (kerOf (v 1 3))], (223, kc, ks, pd_H g (pd_w (pd_w v 1 2 ((v 1 2) + (1 : Int32))) 1 5 ((v 1 5) - (1 : Int32)))))) rfl ?_
            obtain ⟨q18, hq18, h⟩ := pd_bind h
            refine ev_callv pp_Re_closeBlock rfl rfl (pd_isa (c_ke (ker_of _))) rfl (s_Ke_addStep (ker_of _) hq18) ?_
            refine ev_gos pp_Re_closeBlock 1 (S' := (140, [some (.ref 1), some (.int ((v 1 5) - (1 : Int32))), some (.int (v 87 (((v 1 5) - (1 : Int32)).toNatClampNeg))), some (.ref q4), some (.int (v (kerOf (v 1 3)) 3)), some (.int (v 1 2))], [.int (v 87 (((v 1 5) - (1 : Int32)).toNatClampNeg)), .ref q18.1], (223, kc, ks, pd_H g q18.2))) rfl ?_
            refine ev_put pp_Re_closeBlock rfl (c_st (r_Ke_addStep (ker_of _) hq18)) rfl rfl rfl ?_
            refine ev_gos pp_Re_closeBlock 2 (S' := (146, [some (.ref 1), some (.int ((v 1 5) - (1 : Int32))), some (.int (v 87 (((v 1 5) - (1 : Int32)).toNatClampNeg))), some (.ref q4), some (.int (v (kerOf (v 1 3)) 3)), some (.int (v 1 2))], [.int (v (kerOf (v 1 3)) 3), .ref q4], (223, kc, ks, pd_H g (pd_w q18.2 q18.1 4 (v 87 (((v 1 5) - (1 : Int32)).toNatClampNeg)))))) rfl ?_
            refine ev_put pp_Re_closeBlock rfl (c_st (r_Ke_stepAt (ker_of _) hq4)) rfl rfl rfl ?_
            refine ev_gos pp_Re_closeBlock 1 (S' := (150, [some (.ref 1), some (.int ((v 1 5) - (1 : Int32))), some (.int (v 87 (((v 1 5) - (1 : Int32)).toNatClampNeg))), some (.ref q4), some (.int (v (kerOf (v 1 3)) 3)), some (.int (v 1 2))], [.ref q4], (223, kc, ks, pd_H g (pd_w (pd_w q18.2 q18.1 4 (v 87 (((v 1 5) - (1 : Int32)).toNatClampNeg))) q4 3 (v (kerOf (v 1 3)) 3))))) rfl ?_
            refine ev_get pp_Re_closeBlock rfl (c_st (r_Ke_stepAt (ker_of _) hq4)) rfl ?_
            refine ev_gos pp_Re_closeBlock 0 (S' := (153, [some (.ref 1), some (.int ((v 1 5) - (1 : Int32))), some (.int (v 87 (((v 1 5) - (1 : Int32)).toNatClampNeg))), some (.ref q4), some (.int (v (kerOf (v 1 3)) 3)), some (.int (v 1 2))], [.int ((pd_w (pd_w q18.2 q18.1 4 (v 87 (((v 1 5) - (1 : Int32)).toNatClampNeg))) q4 3 (v (kerOf (v 1 3)) 3)) q4 4)], (223, kc, ks, pd_H g (pd_w (pd_w q18.2 q18.1 4 (v 87 (((v 1 5) - (1 : Int32)).toNatClampNeg))) q4 3 (v (kerOf (v 1 3)) 3))))) rfl ?_
            refine ev_gos pp_Re_closeBlock 1 (S' := (bif !(decide (((pd_w (pd_w q18.2 q18.1 4 (v 87 (((v 1 5) - (1 : Int32)).toNatClampNeg))) q4 3 (v (kerOf (v 1 3)) 3)) q4 4) = 0)) then 165 else 156, [some (.ref 1), some (.int ((v 1 5) - (1 : Int32))), some (.int (v 87 (((v 1 5) - (1 : Int32)).toNatClampNeg))), some (.ref q4), some (.int (v (kerOf (v 1 3)) 3)), some (.int (v 1 2))], [], (223, kc, ks, pd_H g (pd_w (pd_w q18.2 q18.1 4 (v 87 (((v 1 5) - (1 : Int32)).toNatClampNeg))) q4 3 (v (kerOf (v 1 3)) 3))))) rfl ?_
            rcases pd_cases h with ⟨hb19, h⟩ | ⟨hb19, h⟩
            · rw [hb19]
              refine ev_gos pp_Re_closeBlock 3 (S' := (170, [some (.ref 1), some (.int ((v 1 5) - (1 : Int32))), some (.int (v 87 (((v 1 5) - (1 : Int32)).toNatClampNeg))), some (.ref q4), some (.int (v (kerOf (v 1 3)) 3)), some (.int (v 1 2))], [.ref q4, .ref (kerOf ((pd_w (pd_w q18.2 q18.1 4 (v 87 (((v 1 5) - (1 : Int32)).toNatClampNeg))) q4 3 (v (kerOf (v 1 3)) 3)) 1 3))], (223, kc, ks, pd_H g (pd_w (pd_w q18.2 q18.1 4 (v 87 (((v 1 5) - (1 : Int32)).toNatClampNeg))) q4 3 (v (kerOf (v 1 3)) 3))))) rfl ?_
              refine ev_get pp_Re_closeBlock rfl (c_st (r_Ke_stepAt (ker_of _) hq4)) rfl ?_
              refine ev_gos pp_Re_closeBlock 0 (S' := (173, [some (.ref 1), some (.int ((v 1 5) - (1 : Int32))), some (.int (v 87 (((v 1 5) - (1 : Int32)).toNatClampNeg))), some (.ref q4), some (.int (v (kerOf (v 1 3)) 3)), some (.int (v 1 2))], [.int ((pd_w (pd_w q18.2 q18.1 4 (v 87 (((v 1 5) - (1 : Int32)).toNatClampNeg))) q4 3 (v (kerOf (v 1 3)) 3)) q4 4), .ref (kerOf ((pd_w (pd_w q18.2 q18.1 4 (v 87 (((v 1 5) - (1 : Int32)).toNatClampNeg))) q4 3 (v (kerOf (v 1 3)) 3)) 1 3))], (223, kc, ks, pd_H g (pd_w (pd_w q18.2 q18.1 4 (v 87 (((v 1 5) - (1 : Int32)).toNatClampNeg))) q4 3 (v (kerOf (v 1 3)) 3))))) rfl ?_
              obtain ⟨q20, hq20, h⟩ := pd_bind h
              refine ev_callv pp_Re_closeBlock rfl rfl (pd_isa (c_ke (ker_of _))) rfl (s_Ke_stepAt (ker_of _) hq20) ?_
              refine ev_gos pp_Re_closeBlock 1 (S' := (178, [some (.ref 1), some (.int ((v 1 5) - (1 : Int32))), some (.int (v 87 (((v 1 5) - (1 : Int32)).toNatClampNeg))), some (.ref q4), some (.int (v (kerOf (v 1 3)) 3)), some (.int (v 1 2))], [.int (v (kerOf (v 1 3)) 3), .ref q20], (223, kc, ks, pd_H g (pd_w (pd_w q18.2 q18.1 4 (v 87 (((v 1 5) - (1 : Int32)).toNatClampNeg))) q4 3 (v (kerOf (v 1 3)) 3))))) rfl ?_
              refine ev_put pp_Re_closeBlock rfl (c_st (r_Ke_stepAt (ker_of _) hq20)) rfl rfl rfl ?_
              refine ev_gos pp_Re_closeBlock 0 (S' := (181, [some (.ref 1), some (.int ((v 1 5) - (1 : Int32))), some (.int (v 87 (((v 1 5) - (1 : Int32)).toNatClampNeg))), some (.ref q4), some (.int (v (kerOf (v 1 3)) 3)), some (.int (v 1 2))], [], (223, kc, ks, pd_H g (pd_w (pd_w (pd_w q18.2 q18.1 4 (v 87 (((v 1 5) - (1 : Int32)).toNatClampNeg))) q4 3 (v (kerOf (v 1 3)) 3)) q20 3 (v (kerOf (v 1 3)) 3))))) rfl ?_
              cases h
              exact ev_fin pp_Re_closeBlock rfl
            · rw [hb19]
              refine ev_gos pp_Re_closeBlock 2 (S' := (159, [some (.ref 1), some (.int ((v 1 5) - (1 : Int32))), some (.int (v 87 (((v 1 5) - (1 : Int32)).toNatClampNeg))), some (.ref q4), some (.int (v (kerOf (v 1 3)) 3)), some (.int (v 1 2))], [.int (v (kerOf (v 1 3)) 3), .ref q4], (223, kc, ks, pd_H g (pd_w (pd_w q18.2 q18.1 4 (v 87 (((v 1 5) - (1 : Int32)).toNatClampNeg))) q4 3 (v (kerOf (v 1 3)) 3))))) rfl ?_
              refine ev_put pp_Re_closeBlock rfl (c_st (r_Ke_stepAt (ker_of _) hq4)) rfl rfl rfl ?_
              refine ev_gos pp_Re_closeBlock 1 (S' := (181, [some (.ref 1), some (.int ((v 1 5) - (1 : Int32))), some (.int (v 87 (((v 1 5) - (1 : Int32)).toNatClampNeg))), some (.ref q4), some (.int (v (kerOf (v 1 3)) 3)), some (.int (v 1 2))], [], (223, kc, ks, pd_H g (pd_w (pd_w (pd_w q18.2 q18.1 4 (v 87 (((v 1 5) - (1 : Int32)).toNatClampNeg))) q4 3 (v (kerOf (v 1 3)) 3)) q4 4 (v (kerOf (v 1 3)) 3))))) rfl ?_
              cases h
              exact ev_fin pp_Re_closeBlock rfl
        · rw [hb13]
          refine ev_gos pp_Re_closeBlock 2 (S' := (83, [some (.ref 1), some (.int ((v 1 5) - (1 : Int32))), some (.int (v 87 (((v 1 5) - (1 : Int32)).toNatClampNeg))), some (.ref q4), some (.int (v (kerOf (v 1 3)) 3)), some (.int (v 1 2))], [.int (123 : Int32), .ref 1], (223, kc, ks, pd_H g (pd_w v 1 2 ((v 1 2) + (1 : Int32)))))) rfl ?_
          obtain ⟨q21, hq21, h⟩ := pd_bind h
          refine ev_callv pp_Re_closeBlock rfl rfl rfl rfl (s_Re_take hq21) ?_
          refine ev_gos pp_Re_closeBlock 0 (S' := (86, [some (.ref 1), some (.int ((v 1 5) - (1 : Int32))), some (.int (v 87 (((v 1 5) - (1 : Int32)).toNatClampNeg))), some (.ref q4), some (.int (v (kerOf (v 1 3)) 3)), some (.int (v 1 2))], [.int q21.1], (223, kc, ks, pd_H g q21.2))) rfl ?_
          refine ev_gos pp_Re_closeBlock 1 (S' := (bif decide (q21.1 = 0) then 109 else 89, [some (.ref 1), some (.int ((v 1 5) - (1 : Int32))), some (.int (v 87 (((v 1 5) - (1 : Int32)).toNatClampNeg))), some (.ref q4), some (.int (v (kerOf (v 1 3)) 3)), some (.int (v 1 2))], [], (223, kc, ks, pd_H g q21.2))) rfl ?_
          rcases pd_cases h with ⟨hb22, h⟩ | ⟨hb22, h⟩
          · rw [hb22]
            refine ev_gos pp_Re_closeBlock 2 (S' := (111, [some (.ref 1), some (.int ((v 1 5) - (1 : Int32))), some (.int (v 87 (((v 1 5) - (1 : Int32)).toNatClampNeg))), some (.ref q4), some (.int (v (kerOf (v 1 3)) 3)), some (.int (v 1 2))], [.int ((v 1 5) - (1 : Int32)), .ref 1], (223, kc, ks, pd_H g q21.2))) rfl ?_
            refine ev_put pp_Re_closeBlock rfl (fun _ => rfl) rfl rfl rfl ?_
            refine ev_gos pp_Re_closeBlock 3 (S' := (119, [some (.ref 1), some (.int ((v 1 5) - (1 : Int32))), some (.int (v 87 (((v 1 5) - (1 : Int32)).toNatClampNeg))), some (.ref q4), some (.int (v (kerOf (v 1 3)) 3)), some (.int (v 1 2))], [.ref q4, .ref (kerOf (q21.2 1 3))], (223, kc, ks, pd_H g (pd_w q21.2 1 5 ((v 1 5) - (1 : Int32)))))) rfl ?_
            refine ev_get pp_Re_closeBlock rfl (c_st (r_Ke_stepAt (ker_of _) hq4)) rfl ?_
            refine ev_gos pp_Re_closeBlock 1 (S' := (123, [some (.ref 1), some (.int ((v 1 5) - (1 : Int32))), some (.int (v 87 (((v 1 5) - (1 : Int32)).toNatClampNeg))), some (.ref q4), some (.int (v (kerOf (v 1 3)) 3)), some (.int (v 1 2))], [.int (5 : Int32), .int ((pd_w q21.2 1 5 ((v 1 5) - (1 : Int32))) q4 0), .ref (kerOf (q21.2 1 3))], (223, kc, ks, pd_H g (pd_w q21.2 1 5 ((v 1 5) - (1 : Int32)))))) rfl ?_
            refine ev_gos pp_Re_closeBlock 1 (S' := (bif !(decide (((pd_w q21.2 1 5 ((v 1 5) - (1 : Int32))) q4 0) = (5 : Int32))) then 131 else 126, [some (.ref 1), some (.int ((v 1 5) - (1 : Int32))), some (.int (v 87 (((v 1 5) - (1 : Int32)).toNatClampNeg))), some (.ref q4), some (.int (v (kerOf (v 1 3)) 3)), some (.int (v 1 2))], [.ref (kerOf (q21.2 1 3))], (223, kc, ks, pd_H g (pd_w q21.2 1 5 ((v 1 5) - (1 : Int32)))))) rfl ?_
            rcases pd_cases h with ⟨hb23, h⟩ | ⟨hb23, h⟩
            · rw [hb23]
              refine ev_gos pp_Re_closeBlock 3 (S' := (136, [some (.ref 1), some (.int ((v 1 5) - (1 : Int32))), some (.int (v 87 (((v 1 5) - (1 : Int32)).toNatClampNeg))), some (.ref q4), some (.int (v (kerOf (v 1 3)) 3)), some (.int (v 1 2))], [.int ((v 1 5) - (1 : Int32)), .int (v 1 2), .int (9 : Int32), .ref (kerOf (q21.2 1 3))], (223, kc, ks, pd_H g (pd_w q21.2 1 5 ((v 1 5) - (1 : Int32)))))) rfl ?_
              obtain ⟨q24, hq24, h⟩ := pd_bind h
              refine ev_callv pp_Re_closeBlock rfl rfl (pd_isa (c_ke (ker_of _))) rfl (s_Ke_addStep (ker_of _) hq24) ?_
              refine ev_gos pp_Re_closeBlock 1 (S' := (140, [some (.ref 1), some (.int ((v 1 5) - (1 : Int32))), some (.int (v 87 (((v 1 5) - (1 : Int32)).toNatClampNeg))), some (.ref q4), some (.int (v (kerOf (v 1 3)) 3)), some (.int (v 1 2))], [.int (v 87 (((v 1 5) - (1 : Int32)).toNatClampNeg)), .ref q24.1], (223, kc, ks, pd_H g q24.2))) rfl ?_
              refine ev_put pp_Re_closeBlock rfl (c_st (r_Ke_addStep (ker_of _) hq24)) rfl rfl rfl ?_
              refine ev_gos pp_Re_closeBlock 2 (S' := (146, [some (.ref 1), some (.int ((v 1 5) - (1 : Int32))), some (.int (v 87 (((v 1 5) - (1 : Int32)).toNatClampNeg))), some (.ref q4), some (.int (v (kerOf (v 1 3)) 3)), some (.int (v 1 2))], [.int (v (kerOf (v 1 3)) 3), .ref q4], (223, kc, ks, pd_H g (pd_w q24.2 q24.1 4 (v 87 (((v 1 5) - (1 : Int32)).toNatClampNeg)))))) rfl ?_
              refine ev_put pp_Re_closeBlock rfl (c_st (r_Ke_stepAt (ker_of _) hq4)) rfl rfl rfl ?_
              refine ev_gos pp_Re_closeBlock 1 (S' := (150, [some (.ref 1), some (.int ((v 1 5) - (1 : Int32))), some (.int (v 87 (((v 1 5) - (1 : Int32)).toNatClampNeg))), some (.ref q4), some (.int (v (kerOf (v 1 3)) 3)), some (.int (v 1 2))], [.ref q4], (223, kc, ks, pd_H g (pd_w (pd_w q24.2 q24.1 4 (v 87 (((v 1 5) - (1 : Int32)).toNatClampNeg))) q4 3 (v (kerOf (v 1 3)) 3))))) rfl ?_
              refine ev_get pp_Re_closeBlock rfl (c_st (r_Ke_stepAt (ker_of _) hq4)) rfl ?_
              refine ev_gos pp_Re_closeBlock 0 (S' := (153, [some (.ref 1), some (.int ((v 1 5) - (1 : Int32))), some (.int (v 87 (((v 1 5) - (1 : Int32)).toNatClampNeg))), some (.ref q4), some (.int (v (kerOf (v 1 3)) 3)), some (.int (v 1 2))], [.int ((pd_w (pd_w q24.2 q24.1 4 (v 87 (((v 1 5) - (1 : Int32)).toNatClampNeg))) q4 3 (v (kerOf (v 1 3)) 3)) q4 4)], (223, kc, ks, pd_H g (pd_w (pd_w q24.2 q24.1 4 (v 87 (((v 1 5) - (1 : Int32)).toNatClampNeg))) q4 3 (v (kerOf (v 1 3)) 3))))) rfl ?_
              refine ev_gos pp_Re_closeBlock 1 (S' := (bif !(decide (((pd_w (pd_w q24.2 q24.1 4 (v 87 (((v 1 5) - (1 : Int32)).toNatClampNeg))) q4 3 (v (kerOf (v 1 3)) 3)) q4 4) = 0)) then 165 else 156, [some (.ref 1), some (.int ((v 1 5) - (1 : Int32))), some (.int (v 87 (((v 1 5) - (1 : Int32)).toNatClampNeg))), some (.ref q4), some (.int (v (kerOf (v 1 3)) 3)), some (.int (v 1 2))], [], (223, kc, ks, pd_H g (pd_w (pd_w q24.2 q24.1 4 (v 87 (((v 1 5) - (1 : Int32)).toNatClampNeg))) q4 3 (v (kerOf (v 1 3)) 3))))) rfl ?_
              rcases pd_cases h with ⟨hb25, h⟩ | ⟨hb25, h⟩
              · rw [hb25]
                refine ev_gos pp_Re_closeBlock 3 (S' := (170, [some (.ref 1), some (.int ((v 1 5) - (1 : Int32))), some (.int (v 87 (((v 1 5) - (1 : Int32)).toNatClampNeg))), some (.ref q4), some (.int (v (kerOf (v 1 3)) 3)), some (.int (v 1 2))], [.ref q4, .ref (kerOf ((pd_w (pd_w q24.2 q24.1 4 (v 87 (((v 1 5) - (1 : Int32)).toNatClampNeg))) q4 3 (v (kerOf (v 1 3)) 3)) 1 3))], (223, kc, ks, pd_H g (pd_w (pd_w q24.2 q24.1 4 (v 87 (((v 1 5) - (1 : Int32)).toNatClampNeg))) q4 3 (v (kerOf (v 1 3)) 3))))) rfl ?_
                refine ev_get pp_Re_closeBlock rfl (c_st (r_Ke_stepAt (ker_of _) hq4)) rfl ?_
                refine ev_gos pp_Re_closeBlock 0 (S' := (173, [some (.ref 1), some (.int ((v 1 5) - (1 : Int32))), some (.int (v 87 (((v 1 5) - (1 : Int32)).toNatClampNeg))), some (.ref q4), some (.int (v (kerOf (v 1 3)) 3)), some (.int (v 1 2))], [.int ((pd_w (pd_w q24.2 q24.1 4 (v 87 (((v 1 5) - (1 : Int32)).toNatClampNeg))) q4 3 (v (kerOf (v 1 3)) 3)) q4 4), .ref (kerOf ((pd_w (pd_w q24.2 q24.1 4 (v 87 (((v 1 5) - (1 : Int32)).toNatClampNeg))) q4 3 (v (kerOf (v 1 3)) 3)) 1 3))], (223, kc, ks, pd_H g (pd_w (pd_w q24.2 q24.1 4 (v 87 (((v 1 5) - (1 : Int32)).toNatClampNeg))) q4 3 (v (kerOf (v 1 3)) 3))))) rfl ?_
                obtain ⟨q26, hq26, h⟩ := pd_bind h
                refine ev_callv pp_Re_closeBlock rfl rfl (pd_isa (c_ke (ker_of _))) rfl (s_Ke_stepAt (ker_of _) hq26) ?_
                refine ev_gos pp_Re_closeBlock 1 (S' := (178, [some (.ref 1), some (.int ((v 1 5) - (1 : Int32))), some (.int (v 87 (((v 1 5) - (1 : Int32)).toNatClampNeg))), some (.ref q4), some (.int (v (kerOf (v 1 3)) 3)), some (.int (v 1 2))], [.int (v (kerOf (v 1 3)) 3), .ref q26], (223, kc, ks, pd_H g (pd_w (pd_w q24.2 q24.1 4 (v 87 (((v 1 5) - (1 : Int32)).toNatClampNeg))) q4 3 (v (kerOf (v 1 3)) 3))))) rfl ?_
                refine ev_put pp_Re_closeBlock rfl (c_st (r_Ke_stepAt (ker_of _) hq26)) rfl rfl rfl ?_
                refine ev_gos pp_Re_closeBlock 0 (S' := (181, [some (.ref 1), some (.int ((v 1 5) - (1 : Int32))), some (.int (v 87 (((v 1 5) - (1 : Int32)).toNatClampNeg))), some (.ref q4), some (.int (v (kerOf (v 1 3)) 3)), some (.int (v 1 2))], [], (223, kc, ks, pd_H g (pd_w (pd_w (pd_w q24.2 q24.1 4 (v 87 (((v 1 5) - (1 : Int32)).toNatClampNeg))) q4 3 (v (kerOf (v 1 3)) 3)) q26 3 (v (kerOf (v 1 3)) 3))))) rfl ?_
                cases h
                exact ev_fin pp_Re_closeBlock rfl
              · rw [hb25]
                refine ev_gos pp_Re_closeBlock 2 (S' := (159, [some (.ref 1), some (.int ((v 1 5) - (1 : Int32))), some (.int (v 87 (((v 1 5) - (1 : Int32)).toNatClampNeg))), some (.ref q4), some (.int (v (kerOf (v 1 3)) 3)), some (.int (v 1 2))], [.int (v (kerOf (v 1 3)) 3), .ref q4], (223, kc, ks, pd_H g (pd_w (pd_w q24.2 q24.1 4 (v 87 (((v 1 5) - (1 : Int32)).toNatClampNeg))) q4 3 (v (kerOf (v 1 3)) 3))))) rfl ?_
                refine ev_put pp_Re_closeBlock rfl (c_st (r_Ke_stepAt (ker_of _) hq4)) rfl rfl rfl ?_
                refine ev_gos pp_Re_closeBlock 1 (S' := (181, [some (.ref 1), some (.int ((v 1 5) - (1 : Int32))), some (.int (v 87 (((v 1 5) - (1 : Int32)).toNatClampNeg))), some (.ref q4), some (.int (v (kerOf (v 1 3)) 3)), some (.int (v 1 2))], [], (223, kc, ks, pd_H g (pd_w (pd_w (pd_w q24.2 q24.1 4 (v 87 (((v 1 5) - (1 : Int32)).toNatClampNeg))) q4 3 (v (kerOf (v 1 3)) 3)) q4 4 (v (kerOf (v 1 3)) 3))))) rfl ?_
                cases h
                exact ev_fin pp_Re_closeBlock rfl
            · rw [hb23]
              refine ev_gos pp_Re_closeBlock 4 (S' := (136, [some (.ref 1), some (.int ((v 1 5) - (1 : Int32))), some (.int (v 87 (((v 1 5) - (1 : Int32)).toNatClampNeg))), some (.ref q4), some (.int (v (kerOf (v 1 3)) 3)), some (.int (v 1 2))], [.int ((v 1 5) - (1 : Int32)), .int (v 1 2), .int (8 : Int32), .ref (kerOf (q21.2 1 3))], (223, kc, ks, pd_H g (pd_w q21.2 1 5 ((v 1 5) - (1 : Int32)))))) rfl ?_
              obtain ⟨q27, hq27, h⟩ := pd_bind h
              refine ev_callv pp_Re_closeBlock rfl rfl (pd_isa (c_ke (ker_of _))) rfl (s_Ke_addStep (ker_of _) hq27) ?_
              refine ev_gos pp_Re_closeBlock 1 (S' := (140, [some (.ref 1), some (.int ((v 1 5) - (1 : Int32))), some (.int (v 87 (((v 1 5) - (1 : Int32)).toNatClampNeg))), some (.ref q4), some (.int (v (kerOf (v 1 3)) 3)), some (.int (v 1 2))], [.int (v 87 (((v 1 5) - (1 : Int32)).toNatClampNeg)), .ref q27.1], (223, kc, ks, pd_H g q27.2))) rfl ?_
              refine ev_put pp_Re_closeBlock rfl (c_st (r_Ke_addStep (ker_of _) hq27)) rfl rfl rfl ?_
              refine ev_gos pp_Re_closeBlock 2 (S' := (146, [some (.ref 1), some (.int ((v 1 5) - (1 : Int32))), some (.int (v 87 (((v 1 5) - (1 : Int32)).toNatClampNeg))), some (.ref q4), some (.int (v (kerOf (v 1 3)) 3)), some (.int (v 1 2))], [.int (v (kerOf (v 1 3)) 3), .ref q4], (223, kc, ks, pd_H g (pd_w q27.2 q27.1 4 (v 87 (((v 1 5) - (1 : Int32)).toNatClampNeg)))))) rfl ?_
              refine ev_put pp_Re_closeBlock rfl (c_st (r_Ke_stepAt (ker_of _) hq4)) rfl rfl rfl ?_
              refine ev_gos pp_Re_closeBlock 1 (S' := (150, [some (.ref 1), some (.int ((v 1 5) - (1 : Int32))), some (.int (v 87 (((v 1 5) - (1 : Int32)).toNatClampNeg))), some (.ref q4), some (.int (v (kerOf (v 1 3)) 3)), some (.int (v 1 2))], [.ref q4], (223, kc, ks, pd_H g (pd_w (pd_w q27.2 q27.1 4 (v 87 (((v 1 5) - (1 : Int32)).toNatClampNeg))) q4 3 (v (kerOf (v 1 3)) 3))))) rfl ?_
              refine ev_get pp_Re_closeBlock rfl (c_st (r_Ke_stepAt (ker_of _) hq4)) rfl ?_
              refine ev_gos pp_Re_closeBlock 0 (S' := (153, [some (.ref 1), some (.int ((v 1 5) - (1 : Int32))), some (.int (v 87 (((v 1 5) - (1 : Int32)).toNatClampNeg))), some (.ref q4), some (.int (v (kerOf (v 1 3)) 3)), some (.int (v 1 2))], [.int ((pd_w (pd_w q27.2 q27.1 4 (v 87 (((v 1 5) - (1 : Int32)).toNatClampNeg))) q4 3 (v (kerOf (v 1 3)) 3)) q4 4)], (223, kc, ks, pd_H g (pd_w (pd_w q27.2 q27.1 4 (v 87 (((v 1 5) - (1 : Int32)).toNatClampNeg))) q4 3 (v (kerOf (v 1 3)) 3))))) rfl ?_
              refine ev_gos pp_Re_closeBlock 1 (S' := (bif !(decide (((pd_w (pd_w q27.2 q27.1 4 (v 87 (((v 1 5) - (1 : Int32)).toNatClampNeg))) q4 3 (v (kerOf (v 1 3)) 3)) q4 4) = 0)) then 165 else 156, [some (.ref 1), some (.int ((v 1 5) - (1 : Int32))), some (.int (v 87 (((v 1 5) - (1 : Int32)).toNatClampNeg))), some (.ref q4), some (.int (v (kerOf (v 1 3)) 3)), some (.int (v 1 2))], [], (223, kc, ks, pd_H g (pd_w (pd_w q27.2 q27.1 4 (v 87 (((v 1 5) - (1 : Int32)).toNatClampNeg))) q4 3 (v (kerOf (v 1 3)) 3))))) rfl ?_
              rcases pd_cases h with ⟨hb28, h⟩ | ⟨hb28, h⟩
              · rw [hb28]
                refine ev_gos pp_Re_closeBlock 3 (S' := (170, [some (.ref 1), some (.int ((v 1 5) - (1 : Int32))), some (.int (v 87 (((v 1 5) - (1 : Int32)).toNatClampNeg))), some (.ref q4), some (.int (v (kerOf (v 1 3)) 3)), some (.int (v 1 2))], [.ref q4, .ref (kerOf ((pd_w (pd_w q27.2 q27.1 4 (v 87 (((v 1 5) - (1 : Int32)).toNatClampNeg))) q4 3 (v (kerOf (v 1 3)) 3)) 1 3))], (223, kc, ks, pd_H g (pd_w (pd_w q27.2 q27.1 4 (v 87 (((v 1 5) - (1 : Int32)).toNatClampNeg))) q4 3 (v (kerOf (v 1 3)) 3))))) rfl ?_
                refine ev_get pp_Re_closeBlock rfl (c_st (r_Ke_stepAt (ker_of _) hq4)) rfl ?_
                refine ev_gos pp_Re_closeBlock 0 (S' := (173, [some (.ref 1), some (.int ((v 1 5) - (1 : Int32))), some (.int (v 87 (((v 1 5) - (1 : Int32)).toNatClampNeg))), some (.ref q4), some (.int (v (kerOf (v 1 3)) 3)), some (.int (v 1 2))], [.int ((pd_w (pd_w q27.2 q27.1 4 (v 87 (((v 1 5) - (1 : Int32)).toNatClampNeg))) q4 3 (v (kerOf (v 1 3)) 3)) q4 4), .ref (kerOf ((pd_w (pd_w q27.2 q27.1 4 (v 87 (((v 1 5) - (1 : Int32)).toNatClampNeg))) q4 3 (v (kerOf (v 1 3)) 3)) 1 3))], (223, kc, ks, pd_H g (pd_w (pd_w q27.2 q27.1 4 (v 87 (((v 1 5) - (1 : Int32)).toNatClampNeg))) q4 3 (v (kerOf (v 1 3)) 3))))) rfl ?_
                obtain ⟨q29, hq29, h⟩ := pd_bind h
                refine ev_callv pp_Re_closeBlock rfl rfl (pd_isa (c_ke (ker_of _))) rfl (s_Ke_stepAt (ker_of _) hq29) ?_
                refine ev_gos pp_Re_closeBlock 1 (S' := (178, [some (.ref 1), some (.int ((v 1 5) - (1 : Int32))), some (.int (v 87 (((v 1 5) - (1 : Int32)).toNatClampNeg))), some (.ref q4), some (.int (v (kerOf (v 1 3)) 3)), some (.int (v 1 2))], [.int (v (kerOf (v 1 3)) 3), .ref q29], (223, kc, ks, pd_H g (pd_w (pd_w q27.2 q27.1 4 (v 87 (((v 1 5) - (1 : Int32)).toNatClampNeg))) q4 3 (v (kerOf (v 1 3)) 3))))) rfl ?_
                refine ev_put pp_Re_closeBlock rfl (c_st (r_Ke_stepAt (ker_of _) hq29)) rfl rfl rfl ?_
                refine ev_gos pp_Re_closeBlock 0 (S' := (181, [some (.ref 1), some (.int ((v 1 5) - (1 : Int32))), some (.int (v 87 (((v 1 5) - (1 : Int32)).toNatClampNeg))), some (.ref q4), some (.int (v (kerOf (v 1 3)) 3)), some (.int (v 1 2))], [], (223, kc, ks, pd_H g (pd_w (pd_w (pd_w q27.2 q27.1 4 (v 87 (((v 1 5) - (1 : Int32)).toNatClampNeg))) q4 3 (v (kerOf (v 1 3)) 3)) q29 3 (v (kerOf (v 1 3)) 3))))) rfl ?_
                cases h
                exact ev_fin pp_Re_closeBlock rfl
              · rw [hb28]
                refine ev_gos pp_Re_closeBlock 2 (S' := (159, [some (.ref 1), some (.int ((v 1 5) - (1 : Int32))), some (.int (v 87 (((v 1 5) - (1 : Int32)).toNatClampNeg))), some (.ref q4), some (.int (v (kerOf (v 1 3)) 3)), some (.int (v 1 2))], [.int (v (kerOf (v 1 3)) 3), .ref q4], (223, kc, ks, pd_H g (pd_w (pd_w q27.2 q27.1 4 (v 87 (((v 1 5) - (1 : Int32)).toNatClampNeg))) q4 3 (v (kerOf (v 1 3)) 3))))) rfl ?_
                refine ev_put pp_Re_closeBlock rfl (c_st (r_Ke_stepAt (ker_of _) hq4)) rfl rfl rfl ?_
                refine ev_gos pp_Re_closeBlock 1 (S' := (181, [some (.ref 1), some (.int ((v 1 5) - (1 : Int32))), some (.int (v 87 (((v 1 5) - (1 : Int32)).toNatClampNeg))), some (.ref q4), some (.int (v (kerOf (v 1 3)) 3)), some (.int (v 1 2))], [], (223, kc, ks, pd_H g (pd_w (pd_w (pd_w q27.2 q27.1 4 (v 87 (((v 1 5) - (1 : Int32)).toNatClampNeg))) q4 3 (v (kerOf (v 1 3)) 3)) q4 4 (v (kerOf (v 1 3)) 3))))) rfl ?_
                cases h
                exact ev_fin pp_Re_closeBlock rfl
          · rw [hb22]
            refine ev_gos pp_Re_closeBlock 5 (S' := (98, [some (.ref 1), some (.int ((v 1 5) - (1 : Int32))), some (.int (v 87 (((v 1 5) - (1 : Int32)).toNatClampNeg))), some (.ref q4), some (.int (v (kerOf (v 1 3)) 3)), some (.int (v 1 2))], [.int ((v 1 5) - (1 : Int32)), .int (v 1 2), .int (7 : Int32), .ref (kerOf (q21.2 1 3))], (223, kc, ks, pd_H g q21.2))) rfl ?_
            obtain ⟨q30, hq30, h⟩ := pd_bind h
            refine ev_callv pp_Re_closeBlock rfl rfl (pd_isa (c_ke (ker_of _))) rfl (s_Ke_addStep (ker_of _) hq30) ?_
            refine ev_gos pp_Re_closeBlock 3 (S' := (105, [some (.ref 1), some (.int ((v 1 5) - (1 : Int32))), some (.int (v 87 (((v 1 5) - (1 : Int32)).toNatClampNeg))), some (.ref q4), some (.int (v (kerOf (v 1 3)) 3)), some (.int (v 1 2))], [.int (v (kerOf (v 1 3)) 3), .ref q4], (223, kc, ks, pd_H g q30.2))) rfl ?_
            refine ev_put pp_Re_closeBlock rfl (c_st (r_Ke_stepAt (ker_of _) hq4)) rfl rfl rfl ?_
            refine ev_gos pp_Re_closeBlock 0 (S' := (108, [some (.ref 1), some (.int ((v 1 5) - (1 : Int32))), some (.int (v 87 (((v 1 5) - (1 : Int32)).toNatClampNeg))), some (.ref q4), some (.int (v (kerOf (v 1 3)) 3)), some (.int (v 1 2))], [], (223, kc, ks, pd_H g (pd_w q30.2 q4 4 (v (kerOf (v 1 3)) 3))))) rfl ?_
            cases h
            exact ev_fin pp_Re_closeBlock rfl
    · rw [hb2]
      refine ev_gos pp_Re_closeBlock 0 (S' := (16, [some (.ref 1), none, none, none, none, none], [], (223, kc, ks, pd_H g v))) rfl ?_
      cases h
      exact ev_fin pp_Re_closeBlock rfl
theorem pp_Re_isVariable {xs : Nat → Int32} {L : Nat} : (pj_P xs L 22).1 = fun S => pm_look tb_Re_isVariable S.1 S := rfl
def d_Re_isVariable (l0 : Int32)  : Int32 :=
  bif decide (l0 < (97 : Int32)) then
    (0 : Int32)
  else
    bif decide ((104 : Int32) < l0) then
      (0 : Int32)
    else
      (1 : Int32)
theorem s_Re_isVariable {l0 : Int32} {v : pd_V}  : pm_ev (pj_P xs L) d 22 (0, [some (.int l0)], [], (223, kc, ks, pd_H g v)) (.inl (some (.int (d_Re_isVariable l0))), (223, kc, ks, pd_H g v)) := by
  unfold d_Re_isVariable
  refine ev_gos pp_Re_isVariable 2 (S' := (3, [some (.int l0)], [.int (97 : Int32), .int l0], (223, kc, ks, pd_H g v))) rfl ?_
  refine ev_gos pp_Re_isVariable 1 (S' := (bif decide (l0 < (97 : Int32)) then 16 else 6, [some (.int l0)], [], (223, kc, ks, pd_H g v))) rfl ?_
  cases hb1 : (decide (l0 < (97 : Int32)))
  · refine ev_gos pp_Re_isVariable 2 (S' := (9, [some (.int l0)], [.int (104 : Int32), .int l0], (223, kc, ks, pd_H g v))) rfl ?_
    refine ev_gos pp_Re_isVariable 1 (S' := (bif decide ((104 : Int32) < l0) then 16 else 12, [some (.int l0)], [], (223, kc, ks, pd_H g v))) rfl ?_
    cases hb2 : (decide ((104 : Int32) < l0))
    · refine ev_gos pp_Re_isVariable 2 (S' := (17, [some (.int l0)], [.int (1 : Int32)], (223, kc, ks, pd_H g v))) rfl ?_
      exact ev_zret pp_Re_isVariable rfl pd_b1
    · refine ev_gos pp_Re_isVariable 1 (S' := (17, [some (.int l0)], [.int (0 : Int32)], (223, kc, ks, pd_H g v))) rfl ?_
      exact ev_zret pp_Re_isVariable rfl pd_b0
  · refine ev_gos pp_Re_isVariable 1 (S' := (17, [some (.int l0)], [.int (0 : Int32)], (223, kc, ks, pd_H g v))) rfl ?_
    exact ev_zret pp_Re_isVariable rfl pd_b0
theorem z_Re_isVariable {l0 : Int32}   : (d_Re_isVariable l0 == 0 || d_Re_isVariable l0 == 1) = true := by
  unfold d_Re_isVariable
  cases hb1 : (decide (l0 < (97 : Int32)))
  · cases hb2 : (decide ((104 : Int32) < l0))
    · exact pd_b1
    · exact pd_b0
  · exact pd_b0
theorem pp_Re_kindFor {xs : Nat → Int32} {L : Nat} : (pj_P xs L 21).1 = fun S => pm_look tb_Re_kindFor S.1 S := rfl
def d_Re_kindFor (l0 : Int32)  : Int32 :=
  bif decide (l0 = (42 : Int32)) then
    (6 : Int32)
  else
    bif decide (l0 = (63 : Int32)) then
      (5 : Int32)
    else
      bif decide (l0 = (76 : Int32)) then
        (2 : Int32)
      else
        bif decide (l0 = (79 : Int32)) then
          (1 : Int32)
        else
          bif decide (l0 = (82 : Int32)) then
            (4 : Int32)
          else
            bif decide (l0 = (88 : Int32)) then
              (3 : Int32)
            else
              bif decide ((d_Re_isVariable l0) = 0) then
                (-1 : Int32)
              else
                (0 : Int32)
theorem s_Re_kindFor {l0 : Int32} {v : pd_V}  : pm_ev (pj_P xs L) (d + 1) 21 (0, [some (.int l0)], [], (223, kc, ks, pd_H g v)) (.inl (some (.int (d_Re_kindFor l0))), (223, kc, ks, pd_H g v)) := by
  unfold d_Re_kindFor
  refine ev_gos pp_Re_kindFor 1 (S' := (1, [some (.int l0)], [.int l0], (223, kc, ks, pd_H g v))) rfl ?_
  refine ev_gos pp_Re_kindFor 1 (S' := (bif decide (l0 = (42 : Int32)) then 70 else bif decide (l0 = (63 : Int32)) then 68 else bif decide (l0 = (76 : Int32)) then 62 else bif decide (l0 = (79 : Int32)) then 60 else bif decide (l0 = (82 : Int32)) then 66 else bif decide (l0 = (88 : Int32)) then 64 else 73, [some (.int l0)], [], (223, kc, ks, pd_H g v))) rfl ?_
  cases hb1 : (decide (l0 = (42 : Int32)))
  · cases hb2 : (decide (l0 = (63 : Int32)))
    · cases hb3 : (decide (l0 = (76 : Int32)))
      · cases hb4 : (decide (l0 = (79 : Int32)))
        · cases hb5 : (decide (l0 = (82 : Int32)))
          · cases hb6 : (decide (l0 = (88 : Int32)))
            · refine ev_gos pp_Re_kindFor 1 (S' := (74, [some (.int l0)], [.int l0], (223, kc, ks, pd_H g v))) rfl ?_
              refine ev_call pp_Re_kindFor rfl rfl rfl (s_Re_isVariable) ?_
              refine ev_gos pp_Re_kindFor 0 (S' := (77, [some (.int l0)], [.int (d_Re_isVariable l0)], (223, kc, ks, pd_H g v))) rfl ?_
              refine ev_gos pp_Re_kindFor 1 (S' := (bif decide ((d_Re_isVariable l0) = 0) then 84 else 80, [some (.int l0)], [], (223, kc, ks, pd_H g v))) rfl ?_
              cases hb8 : (decide ((d_Re_isVariable l0) = 0))
              · refine ev_gos pp_Re_kindFor 2 (S' := (85, [some (.int l0)], [.int (0 : Int32)], (223, kc, ks, pd_H g v))) rfl ?_
                exact ev_fin pp_Re_kindFor rfl
              · refine ev_gos pp_Re_kindFor 1 (S' := (85, [some (.int l0)], [.int (-1 : Int32)], (223, kc, ks, pd_H g v))) rfl ?_
                exact ev_fin pp_Re_kindFor rfl
            · refine ev_gos pp_Re_kindFor 1 (S' := (65, [some (.int l0)], [.int (3 : Int32)], (223, kc, ks, pd_H g v))) rfl ?_
              exact ev_fin pp_Re_kindFor rfl
          · refine ev_gos pp_Re_kindFor 1 (S' := (67, [some (.int l0)], [.int (4 : Int32)], (223, kc, ks, pd_H g v))) rfl ?_
            exact ev_fin pp_Re_kindFor rfl
        · refine ev_gos pp_Re_kindFor 1 (S' := (61, [some (.int l0)], [.int (1 : Int32)], (223, kc, ks, pd_H g v))) rfl ?_
          exact ev_fin pp_Re_kindFor rfl
      · refine ev_gos pp_Re_kindFor 1 (S' := (63, [some (.int l0)], [.int (2 : Int32)], (223, kc, ks, pd_H g v))) rfl ?_
        exact ev_fin pp_Re_kindFor rfl
    · refine ev_gos pp_Re_kindFor 1 (S' := (69, [some (.int l0)], [.int (5 : Int32)], (223, kc, ks, pd_H g v))) rfl ?_
      exact ev_fin pp_Re_kindFor rfl
  · refine ev_gos pp_Re_kindFor 1 (S' := (72, [some (.int l0)], [.int (6 : Int32)], (223, kc, ks, pd_H g v))) rfl ?_
    exact ev_fin pp_Re_kindFor rfl
theorem pp_Re_takeVariable {xs : Nat → Int32} {L : Nat} : (pj_P xs L 24).1 = fun S => pm_look tb_Re_takeVariable S.1 S := rfl
def d_Re_takeVariable  (v : pd_V) : Option (Int32 × pd_V) :=
  (d_Re_next v).bind fun q1 =>
  bif !(decide ((d_Re_isVariable q1) = 0)) then
    some ((q1 - (97 : Int32)), (pd_w v 1 2 ((v 1 2) + (1 : Int32))))
  else
    some ((-1 : Int32), v)
theorem s_Re_takeVariable  {v : pd_V} {q : (Int32 × pd_V)}  (h : d_Re_takeVariable v = some q) : pm_ev (pj_P xs L) (d + 1) 24 (0, [some (.ref 1), none], [], (223, kc, ks, pd_H g v)) (.inl (some (.int q.1)), (223, kc, ks, pd_H g q.2)) := by
  unfold d_Re_takeVariable at h
  refine ev_gos pp_Re_takeVariable 1 (S' := (1, [some (.ref 1), none], [.ref 1], (223, kc, ks, pd_H g v))) rfl ?_
  obtain ⟨q1, hq1, h⟩ := pd_bind h
  refine ev_callv pp_Re_takeVariable rfl rfl rfl rfl (s_Re_next hq1) ?_
  refine ev_gos pp_Re_takeVariable 2 (S' := (6, [some (.ref 1), some (.int q1)], [.int q1], (223, kc, ks, pd_H g v))) rfl ?_
  refine ev_call pp_Re_takeVariable rfl rfl rfl (s_Re_isVariable) ?_
  refine ev_gos pp_Re_takeVariable 0 (S' := (9, [some (.ref 1), some (.int q1)], [.int (d_Re_isVariable q1)], (223, kc, ks, pd_H g v))) rfl ?_
  refine ev_gos pp_Re_takeVariable 1 (S' := (bif !(decide ((d_Re_isVariable q1) = 0)) then 14 else 12, [some (.ref 1), some (.int q1)], [], (223, kc, ks, pd_H g v))) rfl ?_
  rcases pd_cases h with ⟨hb3, h⟩ | ⟨hb3, h⟩
  · rw [hb3]
    refine ev_gos pp_Re_takeVariable 5 (S' := (21, [some (.ref 1), some (.int q1)], [.int ((v 1 2) + (1 : Int32)), .ref 1], (223, kc, ks, pd_H g v))) rfl ?_
    refine ev_put pp_Re_takeVariable rfl (fun _ => rfl) rfl rfl rfl ?_
    refine ev_gos pp_Re_takeVariable 3 (S' := (28, [some (.ref 1), some (.int q1)], [.int (q1 - (97 : Int32))], (223, kc, ks, pd_H g (pd_w v 1 2 ((v 1 2) + (1 : Int32)))))) rfl ?_
    cases h
    exact ev_fin pp_Re_takeVariable rfl
  · rw [hb3]
    refine ev_gos pp_Re_takeVariable 1 (S' := (13, [some (.ref 1), some (.int q1)], [.int (-1 : Int32)], (223, kc, ks, pd_H g v))) rfl ?_
    cases h
    exact ev_fin pp_Re_takeVariable rfl
theorem pp_Re_readHead {xs : Nat → Int32} {L : Nat} : (pj_P xs L 23).1 = fun S => pm_look tb_Re_readHead S.1 S := rfl
def d_Re_readHead (l1 : Nat) (v : pd_V) : Option (Int32 × pd_V) :=
  bif !(decide ((v l1 0) = 0)) then
    bif !(decide (((pd_w v 1 2 ((v 1 2) + (1 : Int32))) l1 0) = (3 : Int32))) then
      some ((1 : Int32), (pd_w v 1 2 ((v 1 2) + (1 : Int32))))
    else
      (d_Re_takeVariable (pd_w v 1 2 ((v 1 2) + (1 : Int32)))).bind fun q3 =>
      bif !(decide (((pd_w q3.2 l1 5 q3.1) l1 5) = (-1 : Int32))) then
        (d_Re_takeVariable (pd_w q3.2 l1 5 q3.1)).bind fun q5 =>
        bif decide (((pd_w q5.2 l1 6 q5.1) l1 6) = (-1 : Int32)) then
          some ((0 : Int32), (pd_w q5.2 l1 6 q5.1))
        else
          some ((1 : Int32), (pd_w q5.2 l1 6 q5.1))
      else
        bif decide (((pd_w (pd_w q3.2 l1 5 q3.1) l1 6 (-1 : Int32)) l1 6) = (-1 : Int32)) then
          some ((0 : Int32), (pd_w (pd_w q3.2 l1 5 q3.1) l1 6 (-1 : Int32)))
        else
          some ((1 : Int32), (pd_w (pd_w q3.2 l1 5 q3.1) l1 6 (-1 : Int32)))
  else
    (d_Re_next v).bind fun q8 =>
    (d_Re_take (61 : Int32) (pd_w (pd_w v l1 5 (q8 - (97 : Int32))) 1 2 (((pd_w v l1 5 (q8 - (97 : Int32))) 1 2) + (1 : Int32)))).bind fun q9 =>
    some (q9.1, q9.2)
theorem s_Re_readHead {l1 : Nat} {v : pd_V} {q : (Int32 × pd_V)} (hl1 : stp l1) (h : d_Re_readHead l1 v = some q) : pm_ev (pj_P xs L) (d + 2) 23 (0, [some (.ref 1), some (.ref l1)], [], (223, kc, ks, pd_H g v)) (.inl (some (.int q.1)), (223, kc, ks, pd_H g q.2)) := by
  unfold d_Re_readHead at h
  refine ev_gos pp_Re_readHead 1 (S' := (1, [some (.ref 1), some (.ref l1)], [.ref l1], (223, kc, ks, pd_H g v))) rfl ?_
  refine ev_get pp_Re_readHead rfl (c_st hl1) rfl ?_
  refine ev_gos pp_Re_readHead 0 (S' := (4, [some (.ref 1), some (.ref l1)], [.int (v l1 0)], (223, kc, ks, pd_H g v))) rfl ?_
  refine ev_gos pp_Re_readHead 1 (S' := (bif !(decide ((v l1 0) = 0)) then 35 else 7, [some (.ref 1), some (.ref l1)], [], (223, kc, ks, pd_H g v))) rfl ?_
  rcases pd_cases h with ⟨hb1, h⟩ | ⟨hb1, h⟩
  · rw [hb1]
    refine ev_gos pp_Re_readHead 5 (S' := (42, [some (.ref 1), some (.ref l1)], [.int ((v 1 2) + (1 : Int32)), .ref 1], (223, kc, ks, pd_H g v))) rfl ?_
    refine ev_put pp_Re_readHead rfl (fun _ => rfl) rfl rfl rfl ?_
    refine ev_gos pp_Re_readHead 1 (S' := (46, [some (.ref 1), some (.ref l1)], [.ref l1], (223, kc, ks, pd_H g (pd_w v 1 2 ((v 1 2) + (1 : Int32)))))) rfl ?_
    refine ev_get pp_Re_readHead rfl (c_st hl1) rfl ?_
    refine ev_gos pp_Re_readHead 1 (S' := (50, [some (.ref 1), some (.ref l1)], [.int (3 : Int32), .int ((pd_w v 1 2 ((v 1 2) + (1 : Int32))) l1 0)], (223, kc, ks, pd_H g (pd_w v 1 2 ((v 1 2) + (1 : Int32)))))) rfl ?_
    refine ev_gos pp_Re_readHead 1 (S' := (bif !(decide (((pd_w v 1 2 ((v 1 2) + (1 : Int32))) l1 0) = (3 : Int32))) then 95 else 53, [some (.ref 1), some (.ref l1)], [], (223, kc, ks, pd_H g (pd_w v 1 2 ((v 1 2) + (1 : Int32)))))) rfl ?_
    rcases pd_cases h with ⟨hb2, h⟩ | ⟨hb2, h⟩
    · rw [hb2]
      refine ev_gos pp_Re_readHead 1 (S' := (96, [some (.ref 1), some (.ref l1)], [.int (1 : Int32)], (223, kc, ks, pd_H g (pd_w v 1 2 ((v 1 2) + (1 : Int32)))))) rfl ?_
      cases h
      exact ev_zret pp_Re_readHead rfl pd_b1
    · rw [hb2]
      refine ev_gos pp_Re_readHead 2 (S' := (55, [some (.ref 1), some (.ref l1)], [.ref 1, .ref l1], (223, kc, ks, pd_H g (pd_w v 1 2 ((v 1 2) + (1 : Int32)))))) rfl ?_
      obtain ⟨q3, hq3, h⟩ := pd_bind h
      refine ev_callv pp_Re_readHead rfl rfl rfl rfl (s_Re_takeVariable hq3) ?_
      refine ev_gos pp_Re_readHead 0 (S' := (58, [some (.ref 1), some (.ref l1)], [.int q3.1, .ref l1], (223, kc, ks, pd_H g q3.2))) rfl ?_
      refine ev_put pp_Re_readHead rfl (c_st hl1) rfl rfl rfl ?_
      refine ev_gos pp_Re_readHead 2 (S' := (63, [some (.ref 1), some (.ref l1)], [.ref l1, .ref l1], (223, kc, ks, pd_H g (pd_w q3.2 l1 5 q3.1)))) rfl ?_
      refine ev_get pp_Re_readHead rfl (c_st hl1) rfl ?_
      refine ev_gos pp_Re_readHead 1 (S' := (67, [some (.ref 1), some (.ref l1)], [.int (-1 : Int32), .int ((pd_w q3.2 l1 5 q3.1) l1 5), .ref l1], (223, kc, ks, pd_H g (pd_w q3.2 l1 5 q3.1)))) rfl ?_
      refine ev_gos pp_Re_readHead 1 (S' := (bif !(decide (((pd_w q3.2 l1 5 q3.1) l1 5) = (-1 : Int32))) then 74 else 70, [some (.ref 1), some (.ref l1)], [.ref l1], (223, kc, ks, pd_H g (pd_w q3.2 l1 5 q3.1)))) rfl ?_
      rcases pd_cases h with ⟨hb4, h⟩ | ⟨hb4, h⟩
      · rw [hb4]
        refine ev_gos pp_Re_readHead 1 (S' := (75, [some (.ref 1), some (.ref l1)], [.ref 1, .ref l1], (223, kc, ks, pd_H g (pd_w q3.2 l1 5 q3.1)))) rfl ?_
        obtain ⟨q5, hq5, h⟩ := pd_bind h
        refine ev_callv pp_Re_readHead rfl rfl rfl rfl (s_Re_takeVariable hq5) ?_
        refine ev_gos pp_Re_readHead 0 (S' := (78, [some (.ref 1), some (.ref l1)], [.int q5.1, .ref l1], (223, kc, ks, pd_H g q5.2))) rfl ?_
        refine ev_put pp_Re_readHead rfl (c_st hl1) rfl rfl rfl ?_
        refine ev_gos pp_Re_readHead 1 (S' := (82, [some (.ref 1), some (.ref l1)], [.ref l1], (223, kc, ks, pd_H g (pd_w q5.2 l1 6 q5.1)))) rfl ?_
        refine ev_get pp_Re_readHead rfl (c_st hl1) rfl ?_
        refine ev_gos pp_Re_readHead 1 (S' := (86, [some (.ref 1), some (.ref l1)], [.int (-1 : Int32), .int ((pd_w q5.2 l1 6 q5.1) l1 6)], (223, kc, ks, pd_H g (pd_w q5.2 l1 6 q5.1)))) rfl ?_
        refine ev_gos pp_Re_readHead 1 (S' := (bif decide (((pd_w q5.2 l1 6 q5.1) l1 6) = (-1 : Int32)) then 93 else 89, [some (.ref 1), some (.ref l1)], [], (223, kc, ks, pd_H g (pd_w q5.2 l1 6 q5.1)))) rfl ?_
        rcases pd_cases h with ⟨hb6, h⟩ | ⟨hb6, h⟩
        · rw [hb6]
          refine ev_gos pp_Re_readHead 1 (S' := (94, [some (.ref 1), some (.ref l1)], [.int (0 : Int32)], (223, kc, ks, pd_H g (pd_w q5.2 l1 6 q5.1)))) rfl ?_
          cases h
          exact ev_zret pp_Re_readHead rfl pd_b0
        · rw [hb6]
          refine ev_gos pp_Re_readHead 2 (S' := (94, [some (.ref 1), some (.ref l1)], [.int (1 : Int32)], (223, kc, ks, pd_H g (pd_w q5.2 l1 6 q5.1)))) rfl ?_
          cases h
          exact ev_zret pp_Re_readHead rfl pd_b1
      · rw [hb4]
        refine ev_gos pp_Re_readHead 2 (S' := (78, [some (.ref 1), some (.ref l1)], [.int (-1 : Int32), .ref l1], (223, kc, ks, pd_H g (pd_w q3.2 l1 5 q3.1)))) rfl ?_
        refine ev_put pp_Re_readHead rfl (c_st hl1) rfl rfl rfl ?_
        refine ev_gos pp_Re_readHead 1 (S' := (82, [some (.ref 1), some (.ref l1)], [.ref l1], (223, kc, ks, pd_H g (pd_w (pd_w q3.2 l1 5 q3.1) l1 6 (-1 : Int32))))) rfl ?_
        refine ev_get pp_Re_readHead rfl (c_st hl1) rfl ?_
        refine ev_gos pp_Re_readHead 1 (S' := (86, [some (.ref 1), some (.ref l1)], [.int (-1 : Int32), .int ((pd_w (pd_w q3.2 l1 5 q3.1) l1 6 (-1 : Int32)) l1 6)], (223, kc, ks, pd_H g (pd_w (pd_w q3.2 l1 5 q3.1) l1 6 (-1 : Int32))))) rfl ?_
        refine ev_gos pp_Re_readHead 1 (S' := (bif decide (((pd_w (pd_w q3.2 l1 5 q3.1) l1 6 (-1 : Int32)) l1 6) = (-1 : Int32)) then 93 else 89, [some (.ref 1), some (.ref l1)], [], (223, kc, ks, pd_H g (pd_w (pd_w q3.2 l1 5 q3.1) l1 6 (-1 : Int32))))) rfl ?_
        rcases pd_cases h with ⟨hb7, h⟩ | ⟨hb7, h⟩
        · rw [hb7]
          refine ev_gos pp_Re_readHead 1 (S' := (94, [some (.ref 1), some (.ref l1)], [.int (0 : Int32)], (223, kc, ks, pd_H g (pd_w (pd_w q3.2 l1 5 q3.1) l1 6 (-1 : Int32))))) rfl ?_
          cases h
          exact ev_zret pp_Re_readHead rfl pd_b0
        · rw [hb7]
          refine ev_gos pp_Re_readHead 2 (S' := (94, [some (.ref 1), some (.ref l1)], [.int (1 : Int32)], (223, kc, ks, pd_H g (pd_w (pd_w q3.2 l1 5 q3.1) l1 6 (-1 : Int32))))) rfl ?_
          cases h
          exact ev_zret pp_Re_readHead rfl pd_b1
  · rw [hb1]
    refine ev_gos pp_Re_readHead 2 (S' := (9, [some (.ref 1), some (.ref l1)], [.ref 1, .ref l1], (223, kc, ks, pd_H g v))) rfl ?_
    obtain ⟨q8, hq8, h⟩ := pd_bind h
    refine ev_callv pp_Re_readHead rfl rfl rfl rfl (s_Re_next hq8) ?_
    refine ev_gos pp_Re_readHead 2 (S' := (15, [some (.ref 1), some (.ref l1)], [.int (q8 - (97 : Int32)), .ref l1], (223, kc, ks, pd_H g v))) rfl ?_
    refine ev_put pp_Re_readHead rfl (c_st hl1) rfl rfl rfl ?_
    refine ev_gos pp_Re_readHead 5 (S' := (25, [some (.ref 1), some (.ref l1)], [.int (((pd_w v l1 5 (q8 - (97 : Int32))) 1 2) + (1 : Int32)), .ref 1], (223, kc, ks, pd_H g (pd_w v l1 5 (q8 - (97 : Int32)))))) rfl ?_
    refine ev_put pp_Re_readHead rfl (fun _ => rfl) rfl rfl rfl ?_
    refine ev_gos pp_Re_readHead 2 (S' := (31, [some (.ref 1), some (.ref l1)], [.int (61 : Int32), .ref 1], (223, kc, ks, pd_H g (pd_w (pd_w v l1 5 (q8 - (97 : Int32))) 1 2 (((pd_w v l1 5 (q8 - (97 : Int32))) 1 2) + (1 : Int32)))))) rfl ?_
    obtain ⟨q9, hq9, h⟩ := pd_bind h
    refine ev_callv pp_Re_readHead rfl rfl rfl rfl (s_Re_take hq9) ?_
    refine ev_gos pp_Re_readHead 0 (S' := (34, [some (.ref 1), some (.ref l1)], [.int q9.1], (223, kc, ks, pd_H g q9.2))) rfl ?_
    cases h
    exact ev_zret pp_Re_readHead rfl (z_Re_take  hq9)
theorem z_Re_readHead {l1 : Nat} {v : pd_V} {q : (Int32 × pd_V)} (hl1 : stp l1) (h : d_Re_readHead l1 v = some q) : (q.1 == 0 || q.1 == 1) = true := by
  unfold d_Re_readHead at h
  rcases pd_cases h with ⟨hb1, h⟩ | ⟨hb1, h⟩
  · rcases pd_cases h with ⟨hb2, h⟩ | ⟨hb2, h⟩
    · cases h
      exact pd_b1
    · obtain ⟨q3, hq3, h⟩ := pd_bind h
      rcases pd_cases h with ⟨hb4, h⟩ | ⟨hb4, h⟩
      · obtain ⟨q5, hq5, h⟩ := pd_bind h
        rcases pd_cases h with ⟨hb6, h⟩ | ⟨hb6, h⟩
        · cases h
          exact pd_b0
        · cases h
          exact pd_b1
      · rcases pd_cases h with ⟨hb7, h⟩ | ⟨hb7, h⟩
        · cases h
          exact pd_b0
        · cases h
          exact pd_b1
  · obtain ⟨q8, hq8, h⟩ := pd_bind h
    obtain ⟨q9, hq9, h⟩ := pd_bind h
    cases h
    exact (z_Re_take  hq9)
theorem pp_Re_isDigit {xs : Nat → Int32} {L : Nat} : (pj_P xs L 28).1 = fun S => pm_look tb_Re_isDigit S.1 S := rfl
def d_Re_isDigit (l0 : Int32)  : Int32 :=
  bif decide (l0 < (48 : Int32)) then
    (0 : Int32)
  else
    bif decide ((57 : Int32) < l0) then
      (0 : Int32)
    else
      (1 : Int32)
theorem s_Re_isDigit {l0 : Int32} {v : pd_V}  : pm_ev (pj_P xs L) d 28 (0, [some (.int l0)], [], (223, kc, ks, pd_H g v)) (.inl (some (.int (d_Re_isDigit l0))), (223, kc, ks, pd_H g v)) := by
  unfold d_Re_isDigit
  refine ev_gos pp_Re_isDigit 2 (S' := (3, [some (.int l0)], [.int (48 : Int32), .int l0], (223, kc, ks, pd_H g v))) rfl ?_
  refine ev_gos pp_Re_isDigit 1 (S' := (bif decide (l0 < (48 : Int32)) then 16 else 6, [some (.int l0)], [], (223, kc, ks, pd_H g v))) rfl ?_
  cases hb1 : (decide (l0 < (48 : Int32)))
  · refine ev_gos pp_Re_isDigit 2 (S' := (9, [some (.int l0)], [.int (57 : Int32), .int l0], (223, kc, ks, pd_H g v))) rfl ?_
    refine ev_gos pp_Re_isDigit 1 (S' := (bif decide ((57 : Int32) < l0) then 16 else 12, [some (.int l0)], [], (223, kc, ks, pd_H g v))) rfl ?_
    cases hb2 : (decide ((57 : Int32) < l0))
    · refine ev_gos pp_Re_isDigit 2 (S' := (17, [some (.int l0)], [.int (1 : Int32)], (223, kc, ks, pd_H g v))) rfl ?_
      exact ev_zret pp_Re_isDigit rfl pd_b1
    · refine ev_gos pp_Re_isDigit 1 (S' := (17, [some (.int l0)], [.int (0 : Int32)], (223, kc, ks, pd_H g v))) rfl ?_
      exact ev_zret pp_Re_isDigit rfl pd_b0
  · refine ev_gos pp_Re_isDigit 1 (S' := (17, [some (.int l0)], [.int (0 : Int32)], (223, kc, ks, pd_H g v))) rfl ?_
    exact ev_zret pp_Re_isDigit rfl pd_b0
theorem z_Re_isDigit {l0 : Int32}   : (d_Re_isDigit l0 == 0 || d_Re_isDigit l0 == 1) = true := by
  unfold d_Re_isDigit
  cases hb1 : (decide (l0 < (48 : Int32)))
  · cases hb2 : (decide ((57 : Int32) < l0))
    · exact pd_b1
    · exact pd_b0
  · exact pd_b0
theorem pp_Re_readNumber {xs : Nat → Int32} {L : Nat} : (pj_P xs L 29).1 = fun S => pm_look tb_Re_readNumber S.1 S := rfl
def d_Re_readNumber_4 (w : Nat) (f : Nat) (l1 : Int32) (l2 : Int32) (v : pd_V) : Option (Int32 × pd_V) := match f with
  | 0 => none
  | f + 1 =>
    bif decide ((3 : Int32) ≤ l2) then
      some (l1, v)
    else
      (d_Re_next v).bind fun q2 =>
      bif decide ((d_Re_isDigit q2) = 0) then
        some (l1, v)
      else
        (d_Re_next v).bind fun q5 =>
        d_Re_readNumber_4 w f (((l1 * (10 : Int32)) + q5) - (48 : Int32)) (l2 + (1 : Int32)) (pd_w v 1 2 ((v 1 2) + (1 : Int32)))
theorem s_Re_readNumber_4 {w : Nat} : ∀ (f : Nat) (l1 : Int32) (l2 : Int32) (v : pd_V)  (q : (Int32 × pd_V)) , d_Re_readNumber_4 w f l1 l2 v = some q → pm_ev (pj_P xs L) (d + 1) 29 (4, [some (.ref 1), some (.int l1), some (.int l2)], [], (223, kc, ks, pd_H g v)) (.inl (some (.int q.1)), (223, kc, ks, pd_H g q.2)) := by
  intro f
  induction f with
  | zero => intro l1 l2 v q h; exact nomatch (show (none : Option (Int32 × pd_V)) = some q from h)
  | succ f ih =>
    intro l1 l2 v q h
    rw [d_Re_readNumber_4] at h
    refine ev_gos pp_Re_readNumber 2 (S' := (6, [some (.ref 1), some (.int l1), some (.int l2)], [.int (3 : Int32), .int l2], (223, kc, ks, pd_H g v))) rfl ?_
    refine ev_gos pp_Re_readNumber 1 (S' := (bif decide ((3 : Int32) ≤ l2) then 48 else 9, [some (.ref 1), some (.int l1), some (.int l2)], [], (223, kc, ks, pd_H g v))) rfl ?_
    rcases pd_cases h with ⟨hb1, h⟩ | ⟨hb1, h⟩
    · rw [hb1]
      refine ev_gos pp_Re_readNumber 1 (S' := (49, [some (.ref 1), some (.int l1), some (.int l2)], [.int l1], (223, kc, ks, pd_H g v))) rfl ?_
      cases h
      exact ev_fin pp_Re_readNumber rfl
    · rw [hb1]
      refine ev_gos pp_Re_readNumber 1 (S' := (10, [some (.ref 1), some (.int l1), some (.int l2)], [.ref 1], (223, kc, ks, pd_H g v))) rfl ?_
      obtain ⟨q2, hq2, h⟩ := pd_bind h
      refine ev_callv pp_Re_readNumber rfl rfl rfl rfl (s_Re_next hq2) ?_
      refine ev_gos pp_Re_readNumber 0 (S' := (13, [some (.ref 1), some (.int l1), some (.int l2)], [.int q2], (223, kc, ks, pd_H g v))) rfl ?_
      refine ev_call pp_Re_readNumber rfl rfl rfl (s_Re_isDigit) ?_
      refine ev_gos pp_Re_readNumber 0 (S' := (16, [some (.ref 1), some (.int l1), some (.int l2)], [.int (d_Re_isDigit q2)], (223, kc, ks, pd_H g v))) rfl ?_
      refine ev_gos pp_Re_readNumber 1 (S' := (bif decide ((d_Re_isDigit q2) = 0) then 48 else 19, [some (.ref 1), some (.int l1), some (.int l2)], [], (223, kc, ks, pd_H g v))) rfl ?_
      rcases pd_cases h with ⟨hb4, h⟩ | ⟨hb4, h⟩
      · rw [hb4]
        refine ev_gos pp_Re_readNumber 1 (S' := (49, [some (.ref 1), some (.int l1), some (.int l2)], [.int l1], (223, kc, ks, pd_H g v))) rfl ?_
        cases h
        exact ev_fin pp_Re_readNumber rfl
      · rw [hb4]
        refine ev_gos pp_Re_readNumber 4 (S' := (24, [some (.ref 1), some (.int l1), some (.int l2)], [.ref 1, .int (l1 * (10 : Int32))], (223, kc, ks, pd_H g v))) rfl ?_
        obtain ⟨q5, hq5, h⟩ := pd_bind h
        refine ev_callv pp_Re_readNumber rfl rfl rfl rfl (s_Re_next hq5) ?_
        refine ev_gos pp_Re_readNumber 9 (S' := (39, [some (.ref 1), some (.int (((l1 * (10 : Int32)) + q5) - (48 : Int32))), some (.int l2)], [.int ((v 1 2) + (1 : Int32)), .ref 1], (223, kc, ks, pd_H g v))) rfl ?_
        refine ev_put pp_Re_readNumber rfl (fun _ => rfl) rfl rfl rfl ?_
        refine ev_gos pp_Re_readNumber 2 (S' := (4, [some (.ref 1), some (.int (((l1 * (10 : Int32)) + q5) - (48 : Int32))), some (.int (l2 + (1 : Int32)))], [], (223, kc, ks, pd_H g (pd_w v 1 2 ((v 1 2) + (1 : Int32)))))) rfl ?_
        exact ih _ _ _ _  h
def d_Re_readNumber (w : Nat)  (v : pd_V) : Option (Int32 × pd_V) :=
  d_Re_readNumber_4 w w (0 : Int32) (0 : Int32) v
theorem s_Re_readNumber {w : Nat}  {v : pd_V} {q : (Int32 × pd_V)}  (h : d_Re_readNumber w v = some q) : pm_ev (pj_P xs L) (d + 1) 29 (0, [some (.ref 1), none, none], [], (223, kc, ks, pd_H g v)) (.inl (some (.int q.1)), (223, kc, ks, pd_H g q.2)) := by
  unfold d_Re_readNumber at h
  refine ev_gos pp_Re_readNumber 4 (S' := (4, [some (.ref 1), some (.int (0 : Int32)), some (.int (0 : Int32))], [], (223, kc, ks, pd_H g v))) rfl ?_
  exact s_Re_readNumber_4 _ _ _ _ _  h
theorem pp_Ke_addItem {xs : Nat → Int32} {L : Nat} : (pj_P xs L 30).1 = fun S => pm_look tb_Ke_addItem S.1 S := rfl
def d_Ke_addItem (l0 : Nat) (l1 : Int32) (l2 : Int32) (v : pd_V) : Option pd_V :=
  bif decide ((160 : Int32) ≤ (v l0 4)) then
    some v
  else
    bif pm_in (v l0 4) 160 then
    bif pm_in ((pd_w v (l0 + 2) ((v l0 4).toNatClampNeg) l1) l0 4) 160 then
    some (pd_w (pd_w (pd_w v (l0 + 2) ((v l0 4).toNatClampNeg) l1) (l0 + 3) (((pd_w v (l0 + 2) ((v l0 4).toNatClampNeg) l1) l0 4).toNatClampNeg) l2) l0 4 (((pd_w (pd_w v (l0 + 2) ((v l0 4).toNatClampNeg) l1) (l0 + 3) (((pd_w v (l0 + 2) ((v l0 4).toNatClampNeg) l1) l0 4).toNatClampNeg) l2) l0 4) + (1 : Int32)))
    else none
    else none
theorem s_Ke_addItem {l0 : Nat} {l1 : Int32} {l2 : Int32} {v : pd_V} {q : pd_V} (hl0 : ker l0) (h : d_Ke_addItem l0 l1 l2 v = some q) : pm_ev (pj_P xs L) d 30 (0, [some (.ref l0), some (.int l1), some (.int l2)], [], (223, kc, ks, pd_H g v)) (.inl none, (223, kc, ks, pd_H g q)) := by
  unfold d_Ke_addItem at h
  refine ev_gos pp_Ke_addItem 1 (S' := (1, [some (.ref l0), some (.int l1), some (.int l2)], [.ref l0], (223, kc, ks, pd_H g v))) rfl ?_
  refine ev_get pp_Ke_addItem rfl (c_ke hl0) rfl ?_
  refine ev_gos pp_Ke_addItem 1 (S' := (7, [some (.ref l0), some (.int l1), some (.int l2)], [.int (160 : Int32), .int (v l0 4)], (223, kc, ks, pd_H g v))) rfl ?_
  refine ev_gos pp_Ke_addItem 1 (S' := (bif decide ((160 : Int32) ≤ (v l0 4)) then 40 else 10, [some (.ref l0), some (.int l1), some (.int l2)], [], (223, kc, ks, pd_H g v))) rfl ?_
  rcases pd_cases h with ⟨hb1, h⟩ | ⟨hb1, h⟩
  · rw [hb1]
    refine ev_gos pp_Ke_addItem 0 (S' := (40, [some (.ref l0), some (.int l1), some (.int l2)], [], (223, kc, ks, pd_H g v))) rfl ?_
    cases h
    exact ev_fin pp_Ke_addItem rfl
  · rw [hb1]
    refine ev_gos pp_Ke_addItem 1 (S' := (11, [some (.ref l0), some (.int l1), some (.int l2)], [.ref l0], (223, kc, ks, pd_H g v))) rfl ?_
    refine ev_get pp_Ke_addItem rfl (c_ke hl0) rfl ?_
    refine ev_gos pp_Ke_addItem 1 (S' := (15, [some (.ref l0), some (.int l1), some (.int l2)], [.ref l0, .ref (l0 + 2)], (223, kc, ks, pd_H g v))) rfl ?_
    refine ev_get pp_Ke_addItem rfl (c_ke hl0) rfl ?_
    refine ev_gos pp_Ke_addItem 1 (S' := (19, [some (.ref l0), some (.int l1), some (.int l2)], [.int l1, .int (v l0 4), .ref (l0 + 2)], (223, kc, ks, pd_H g v))) rfl ?_
    obtain ⟨hc2, h⟩ := pd_chk h
    refine ev_iast pp_Ke_addItem rfl (c_ke2 hl0) hc2 ?_
    refine ev_gos pp_Ke_addItem 1 (S' := (21, [some (.ref l0), some (.int l1), some (.int l2)], [.ref l0], (223, kc, ks, pd_H g (pd_w v (l0 + 2) ((v l0 4).toNatClampNeg) l1)))) rfl ?_
    refine ev_get pp_Ke_addItem rfl (c_ke hl0) rfl ?_
    refine ev_gos pp_Ke_addItem 1 (S' := (25, [some (.ref l0), some (.int l1), some (.int l2)], [.ref l0, .ref (l0 + 3)], (223, kc, ks, pd_H g (pd_w v (l0 + 2) ((v l0 4).toNatClampNeg) l1)))) rfl ?_
    refine ev_get pp_Ke_addItem rfl (c_ke hl0) rfl ?_
    refine ev_gos pp_Ke_addItem 1 (S' := (29, [some (.ref l0), some (.int l1), some (.int l2)], [.int l2, .int ((pd_w v (l0 + 2) ((v l0 4).toNatClampNeg) l1) l0 4), .ref (l0 + 3)], (223, kc, ks, pd_H g (pd_w v (l0 + 2) ((v l0 4).toNatClampNeg) l1)))) rfl ?_
    obtain ⟨hc3, h⟩ := pd_chk h
    refine ev_iast pp_Ke_addItem rfl (c_ke3 hl0) hc3 ?_
    refine ev_gos pp_Ke_addItem 2 (S' := (32, [some (.ref l0), some (.int l1), some (.int l2)], [.ref l0, .ref l0], (223, kc, ks, pd_H g (pd_w (pd_w v (l0 + 2) ((v l0 4).toNatClampNeg) l1) (l0 + 3) (((pd_w v (l0 + 2) ((v l0 4).toNatClampNeg) l1) l0 4).toNatClampNeg) l2)))) rfl ?_
    refine ev_get pp_Ke_addItem rfl (c_ke hl0) rfl ?_
    refine ev_gos pp_Ke_addItem 2 (S' := (37, [some (.ref l0), some (.int l1), some (.int l2)], [.int (((pd_w (pd_w v (l0 + 2) ((v l0 4).toNatClampNeg) l1) (l0 + 3) (((pd_w v (l0 + 2) ((v l0 4).toNatClampNeg) l1) l0 4).toNatClampNeg) l2) l0 4) + (1 : Int32)), .ref l0], (223, kc, ks, pd_H g (pd_w (pd_w v (l0 + 2) ((v l0 4).toNatClampNeg) l1) (l0 + 3) (((pd_w v (l0 + 2) ((v l0 4).toNatClampNeg) l1) l0 4).toNatClampNeg) l2)))) rfl ?_
    refine ev_put pp_Ke_addItem rfl (c_ke hl0) rfl rfl rfl ?_
    refine ev_gos pp_Ke_addItem 0 (S' := (40, [some (.ref l0), some (.int l1), some (.int l2)], [], (223, kc, ks, pd_H g (pd_w (pd_w (pd_w v (l0 + 2) ((v l0 4).toNatClampNeg) l1) (l0 + 3) (((pd_w v (l0 + 2) ((v l0 4).toNatClampNeg) l1) l0 4).toNatClampNeg) l2) l0 4 (((pd_w (pd_w v (l0 + 2) ((v l0 4).toNatClampNeg) l1) (l0 + 3) (((pd_w v (l0 + 2) ((v l0 4).toNatClampNeg) l1) l0 4).toNatClampNeg) l2) l0 4) + (1 : Int32)))))) rfl ?_
    cases h
    exact ev_fin pp_Ke_addItem rfl
theorem pp_Re_readBracket {xs : Nat → Int32} {L : Nat} : (pj_P xs L 31).1 = fun S => pm_look tb_Re_readBracket S.1 S := rfl
def d_Re_readBracket (E : Int32 → pd_V → Option (Int32 × pd_V)) (l1 : Int32) (l2 : Int32) (l3 : Int32) (v : pd_V) : Option (Int32 × pd_V) :=
  bif decide ((4 : Int32) ≤ l3) then
    some ((0 : Int32), v)
  else
    (d_Re_take l1 v).bind fun q2 =>
    bif decide (q2.1 = 0) then
      some ((0 : Int32), q2.2)
    else
      (E (l3 + (1 : Int32)) q2.2).bind fun q4 =>
      bif decide (q4.1 = 0) then
        some ((0 : Int32), q4.2)
      else
        (d_Re_take l2 q4.2).bind fun q6 =>
        bif decide (q6.1 = 0) then
          some ((0 : Int32), q6.2)
        else
          some ((1 : Int32), q6.2)
theorem s_Re_readBracket {E : Int32 → pd_V → Option (Int32 × pd_V)} (hE : ∀ {l1 : Int32} {v : pd_V} {q : Int32 × pd_V}, E l1 v = some q → pm_ev (pj_P xs L) (d + 3) 26 (0, [some (.ref 1), some (.int l1), none, none], [], (223, kc, ks, pd_H g v)) (.inl (some (.int q.1)), (223, kc, ks, pd_H g q.2))) (hEz : ∀ {l1 : Int32} {v : pd_V} {q : Int32 × pd_V}, E l1 v = some q → (q.1 == 0 || q.1 == 1) = true) {l1 : Int32} {l2 : Int32} {l3 : Int32} {v : pd_V} {q : (Int32 × pd_V)}  (h : d_Re_readBracket E l1 l2 l3 v = some q) : pm_ev (pj_P xs L) (d + 4) 31 (0, [some (.ref 1), some (.int l1), some (.int l2), some (.int l3)], [], (223, kc, ks, pd_H g v)) (.inl (some (.int q.1)), (223, kc, ks, pd_H g q.2)) := by
  unfold d_Re_readBracket at h
  refine ev_gos pp_Re_readBracket 2 (S' := (2, [some (.ref 1), some (.int l1), some (.int l2), some (.int l3)], [.int (4 : Int32), .int l3], (223, kc, ks, pd_H g v))) rfl ?_
  refine ev_gos pp_Re_readBracket 1 (S' := (bif decide ((4 : Int32) ≤ l3) then 35 else 5, [some (.ref 1), some (.int l1), some (.int l2), some (.int l3)], [], (223, kc, ks, pd_H g v))) rfl ?_
  rcases pd_cases h with ⟨hb1, h⟩ | ⟨hb1, h⟩
  · rw [hb1]
    refine ev_gos pp_Re_readBracket 1 (S' := (36, [some (.ref 1), some (.int l1), some (.int l2), some (.int l3)], [.int (0 : Int32)], (223, kc, ks, pd_H g v))) rfl ?_
    cases h
    exact ev_zret pp_Re_readBracket rfl pd_b0
  · rw [hb1]
    refine ev_gos pp_Re_readBracket 2 (S' := (7, [some (.ref 1), some (.int l1), some (.int l2), some (.int l3)], [.int l1, .ref 1], (223, kc, ks, pd_H g v))) rfl ?_
    obtain ⟨q2, hq2, h⟩ := pd_bind h
    refine ev_callv pp_Re_readBracket rfl rfl rfl rfl (s_Re_take hq2) ?_
    refine ev_gos pp_Re_readBracket 0 (S' := (10, [some (.ref 1), some (.int l1), some (.int l2), some (.int l3)], [.int q2.1], (223, kc, ks, pd_H g q2.2))) rfl ?_
    refine ev_gos pp_Re_readBracket 1 (S' := (bif decide (q2.1 = 0) then 35 else 13, [some (.ref 1), some (.int l1), some (.int l2), some (.int l3)], [], (223, kc, ks, pd_H g q2.2))) rfl ?_
    rcases pd_cases h with ⟨hb3, h⟩ | ⟨hb3, h⟩
    · rw [hb3]
      refine ev_gos pp_Re_readBracket 1 (S' := (36, [some (.ref 1), some (.int l1), some (.int l2), some (.int l3)], [.int (0 : Int32)], (223, kc, ks, pd_H g q2.2))) rfl ?_
      cases h
      exact ev_zret pp_Re_readBracket rfl pd_b0
    · rw [hb3]
      refine ev_gos pp_Re_readBracket 4 (S' := (17, [some (.ref 1), some (.int l1), some (.int l2), some (.int l3)], [.int (l3 + (1 : Int32)), .ref 1], (223, kc, ks, pd_H g q2.2))) rfl ?_
      obtain ⟨q4, hq4, h⟩ := pd_bind h
      refine ev_callv pp_Re_readBracket rfl rfl rfl rfl (hE hq4) ?_
      refine ev_gos pp_Re_readBracket 0 (S' := (20, [some (.ref 1), some (.int l1), some (.int l2), some (.int l3)], [.int q4.1], (223, kc, ks, pd_H g q4.2))) rfl ?_
      refine ev_gos pp_Re_readBracket 1 (S' := (bif decide (q4.1 = 0) then 35 else 23, [some (.ref 1), some (.int l1), some (.int l2), some (.int l3)], [], (223, kc, ks, pd_H g q4.2))) rfl ?_
      rcases pd_cases h with ⟨hb5, h⟩ | ⟨hb5, h⟩
      · rw [hb5]
        refine ev_gos pp_Re_readBracket 1 (S' := (36, [some (.ref 1), some (.int l1), some (.int l2), some (.int l3)], [.int (0 : Int32)], (223, kc, ks, pd_H g q4.2))) rfl ?_
        cases h
        exact ev_zret pp_Re_readBracket rfl pd_b0
      · rw [hb5]
        refine ev_gos pp_Re_readBracket 2 (S' := (25, [some (.ref 1), some (.int l1), some (.int l2), some (.int l3)], [.int l2, .ref 1], (223, kc, ks, pd_H g q4.2))) rfl ?_
        obtain ⟨q6, hq6, h⟩ := pd_bind h
        refine ev_callv pp_Re_readBracket rfl rfl rfl rfl (s_Re_take hq6) ?_
        refine ev_gos pp_Re_readBracket 0 (S' := (28, [some (.ref 1), some (.int l1), some (.int l2), some (.int l3)], [.int q6.1], (223, kc, ks, pd_H g q6.2))) rfl ?_
        refine ev_gos pp_Re_readBracket 1 (S' := (bif decide (q6.1 = 0) then 35 else 31, [some (.ref 1), some (.int l1), some (.int l2), some (.int l3)], [], (223, kc, ks, pd_H g q6.2))) rfl ?_
        rcases pd_cases h with ⟨hb7, h⟩ | ⟨hb7, h⟩
        · rw [hb7]
          refine ev_gos pp_Re_readBracket 1 (S' := (36, [some (.ref 1), some (.int l1), some (.int l2), some (.int l3)], [.int (0 : Int32)], (223, kc, ks, pd_H g q6.2))) rfl ?_
          cases h
          exact ev_zret pp_Re_readBracket rfl pd_b0
        · rw [hb7]
          refine ev_gos pp_Re_readBracket 2 (S' := (36, [some (.ref 1), some (.int l1), some (.int l2), some (.int l3)], [.int (1 : Int32)], (223, kc, ks, pd_H g q6.2))) rfl ?_
          cases h
          exact ev_zret pp_Re_readBracket rfl pd_b1
theorem z_Re_readBracket {E : Int32 → pd_V → Option (Int32 × pd_V)} (hEz : ∀ {l1 : Int32} {v : pd_V} {q : Int32 × pd_V}, E l1 v = some q → (q.1 == 0 || q.1 == 1) = true) {l1 : Int32} {l2 : Int32} {l3 : Int32} {v : pd_V} {q : (Int32 × pd_V)}  (h : d_Re_readBracket E l1 l2 l3 v = some q) : (q.1 == 0 || q.1 == 1) = true := by
  unfold d_Re_readBracket at h
  rcases pd_cases h with ⟨hb1, h⟩ | ⟨hb1, h⟩
  · cases h
    exact pd_b0
  · obtain ⟨q2, hq2, h⟩ := pd_bind h
    rcases pd_cases h with ⟨hb3, h⟩ | ⟨hb3, h⟩
    · cases h
      exact pd_b0
    · obtain ⟨q4, hq4, h⟩ := pd_bind h
      rcases pd_cases h with ⟨hb5, h⟩ | ⟨hb5, h⟩
      · cases h
        exact pd_b0
      · obtain ⟨q6, hq6, h⟩ := pd_bind h
        rcases pd_cases h with ⟨hb7, h⟩ | ⟨hb7, h⟩
        · cases h
          exact pd_b0
        · cases h
          exact pd_b1
end FN
