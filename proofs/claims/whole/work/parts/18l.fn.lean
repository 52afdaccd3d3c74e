section FN
variable {xs : Nat → Int32} {L : Nat} {g : Nat → Int64} {d kc ks : Nat}
theorem pp_Mo_valueOf {xs : Nat → Int32} {L : Nat} : (pj_P xs L 130).1 = fun S => pm_look tb_Mo_valueOf S.1 S := rfl
def d_Mo_valueOf (w : Nat) (l1 : Int32) (l2 : Int32) (l3 : Int32) (v : pd_V) : Option (Int32 × pd_V) :=
  (d_Mo_reckon w l1 l2 (pd_w v 198 19 (0 : Int32))).bind fun q1 =>
  bif decide ((q1.2 198 19) = 0) then
    some (q1.1, q1.2)
  else
    bif pm_in l1 16 then
    bif pm_in l1 16 then
    some (q1.1, (pd_w (pd_w q1.2 208 l1.toNatClampNeg (l3 + (1 : Int32))) 209 l1.toNatClampNeg (1 : Int32)))
    else none
    else none
theorem s_Mo_valueOf {w : Nat} {l1 : Int32} {l2 : Int32} {l3 : Int32} {v : pd_V} {q : (Int32 × pd_V)}  (h : d_Mo_valueOf w l1 l2 l3 v = some q) : pm_ev (pj_P xs L) (d + 3) 130 (0, [some (.ref 198), some (.int l1), some (.int l2), some (.int l3), none], [], (223, kc, ks, pd_H g v)) (.inl (some (.int q.1)), (223, kc, ks, pd_H g q.2)) := by
  unfold d_Mo_valueOf at h
  refine ev_gos pp_Mo_valueOf 2 (S' := (2, [some (.ref 198), some (.int l1), some (.int l2), some (.int l3), none], [.int (0 : Int32), .ref 198], (223, kc, ks, pd_H g v))) rfl ?_
  refine ev_put pp_Mo_valueOf rfl (fun _ => rfl) rfl rfl (pd_fit pd_b0) ?_
  refine ev_gos pp_Mo_valueOf 3 (S' := (8, [some (.ref 198), some (.int l1), some (.int l2), some (.int l3), none], [.int l2, .int l1, .ref 198], (223, kc, ks, pd_H g (pd_w v 198 19 (0 : Int32))))) rfl ?_
  obtain ⟨q1, hq1, h⟩ := pd_bind h
  refine ev_callv pp_Mo_valueOf rfl rfl rfl rfl (s_Mo_reckon hq1) ?_
  refine ev_gos pp_Mo_valueOf 3 (S' := (17, [some (.ref 198), some (.int l1), some (.int l2), some (.int l3), some (.int q1.1)], [.int (q1.2 198 19)], (223, kc, ks, pd_H g q1.2))) rfl ?_
  refine ev_gos pp_Mo_valueOf 1 (S' := (bif decide ((q1.2 198 19) = 0) then 36 else 20, [some (.ref 198), some (.int l1), some (.int l2), some (.int l3), some (.int q1.1)], [], (223, kc, ks, pd_H g q1.2))) rfl ?_
  rcases pd_cases h with ⟨hb2, h⟩ | ⟨hb2, h⟩
  · rw [hb2]
    refine ev_gos pp_Mo_valueOf 1 (S' := (38, [some (.ref 198), some (.int l1), some (.int l2), some (.int l3), some (.int q1.1)], [.int q1.1], (223, kc, ks, pd_H g q1.2))) rfl ?_
    cases h
    exact ev_fin pp_Mo_valueOf rfl
  · rw [hb2]
    refine ev_gos pp_Mo_valueOf 6 (S' := (28, [some (.ref 198), some (.int l1), some (.int l2), some (.int l3), some (.int q1.1)], [.int (l3 + (1 : Int32)), .int l1, .ref 208], (223, kc, ks, pd_H g q1.2))) rfl ?_
    obtain ⟨hc3, h⟩ := pd_chk h
    refine ev_iast pp_Mo_valueOf rfl (fun _ => rfl) hc3 ?_
    refine ev_gos pp_Mo_valueOf 4 (S' := (35, [some (.ref 198), some (.int l1), some (.int l2), some (.int l3), some (.int q1.1)], [.int (1 : Int32), .int l1, .ref 209], (223, kc, ks, pd_H g (pd_w q1.2 208 l1.toNatClampNeg (l3 + (1 : Int32)))))) rfl ?_
    obtain ⟨hc4, h⟩ := pd_chk h
    refine ev_zast pp_Mo_valueOf rfl (fun _ => rfl) hc4 pd_b1 ?_
    refine ev_gos pp_Mo_valueOf 1 (S' := (38, [some (.ref 198), some (.int l1), some (.int l2), some (.int l3), some (.int q1.1)], [.int q1.1], (223, kc, ks, pd_H g (pd_w (pd_w q1.2 208 l1.toNatClampNeg (l3 + (1 : Int32))) 209 l1.toNatClampNeg (1 : Int32))))) rfl ?_
    cases h
    exact ev_fin pp_Mo_valueOf rfl
theorem pp_Mo_truth {xs : Nat → Int32} {L : Nat} : (pj_P xs L 129).1 = fun S => pm_look tb_Mo_truth S.1 S := rfl
def d_Mo_truth_6 (w : Nat) (f : Nat) (l1 : Int32) (l2 : Int32) (l3 : Int32) (l4 : Int32) (l5 : Int32) (v : pd_V) : Option (Int32 × pd_V) := match f with
  | 0 => none
  | f + 1 =>
    bif decide ((8 : Int32) ≤ l5) then
      some (l4, v)
    else
      bif !(decide (((l1 >>> (l5 &&& 31)) &&& (1 : Int32)) = 0)) then
        (d_Mo_valueOf w l5 l2 l3 v).bind fun q3 =>
        bif decide (q3.1 = 0) then
          d_Mo_truth_6 w f l1 l2 l3 l4 (l5 + (1 : Int32)) q3.2
        else
          bif pm_in l5 16 then
          bif !(decide ((q3.2 209 l5.toNatClampNeg) = 0)) then
            d_Mo_truth_6 w f l1 l2 l3 l4 (l5 + (1 : Int32)) q3.2
          else
            d_Mo_truth_6 w f l1 l2 l3 (l4 ||| ((1 : Int32) <<< (l5 &&& 31))) (l5 + (1 : Int32)) q3.2
          else none
      else
        d_Mo_truth_6 w f l1 l2 l3 l4 (l5 + (1 : Int32)) v
theorem s_Mo_truth_6 {w : Nat} : ∀ (f : Nat) (l1 : Int32) (l2 : Int32) (l3 : Int32) (l4 : Int32) (l5 : Int32) (v : pd_V) (y6 : Option Value) (q : (Int32 × pd_V)) , d_Mo_truth_6 w f l1 l2 l3 l4 l5 v = some q → pm_ev (pj_P xs L) (d + 4) 129 (6, [some (.ref 198), some (.int l1), some (.int l2), some (.int l3), some (.int l4), some (.int l5), y6], [], (223, kc, ks, pd_H g v)) (.inl (some (.int q.1)), (223, kc, ks, pd_H g q.2)) := by
  intro f
  induction f with
  | zero => intro l1 l2 l3 l4 l5 v y6 q h; exact nomatch (show (none : Option (Int32 × pd_V)) = some q from h)
  | succ f ih =>
    intro l1 l2 l3 l4 l5 v y6 q h
    rw [d_Mo_truth_6] at h
    refine ev_gos pp_Mo_truth 2 (S' := (10, [some (.ref 198), some (.int l1), some (.int l2), some (.int l3), some (.int l4), some (.int l5), y6], [.int (8 : Int32), .int l5], (223, kc, ks, pd_H g v))) rfl ?_
    refine ev_gos pp_Mo_truth 1 (S' := (bif decide ((8 : Int32) ≤ l5) then 70 else 13, [some (.ref 198), some (.int l1), some (.int l2), some (.int l3), some (.int l4), some (.int l5), y6], [], (223, kc, ks, pd_H g v))) rfl ?_
    rcases pd_cases h with ⟨hb1, h⟩ | ⟨hb1, h⟩
    · rw [hb1]
      refine ev_gos pp_Mo_truth 1 (S' := (72, [some (.ref 198), some (.int l1), some (.int l2), some (.int l3), some (.int l4), some (.int l5), y6], [.int l4], (223, kc, ks, pd_H g v))) rfl ?_
      cases h
      exact ev_fin pp_Mo_truth rfl
    · rw [hb1]
      refine ev_gos pp_Mo_truth 5 (S' := (19, [some (.ref 198), some (.int l1), some (.int l2), some (.int l3), some (.int l4), some (.int l5), y6], [.int ((l1 >>> (l5 &&& 31)) &&& (1 : Int32))], (223, kc, ks, pd_H g v))) rfl ?_
      refine ev_gos pp_Mo_truth 1 (S' := (bif !(decide (((l1 >>> (l5 &&& 31)) &&& (1 : Int32)) = 0)) then 25 else 22, [some (.ref 198), some (.int l1), some (.int l2), some (.int l3), some (.int l4), some (.int l5), y6], [], (223, kc, ks, pd_H g v))) rfl ?_
      rcases pd_cases h with ⟨hb2, h⟩ | ⟨hb2, h⟩
      · rw [hb2]
        refine ev_gos pp_Mo_truth 4 (S' := (30, [some (.ref 198), some (.int l1), some (.int l2), some (.int l3), some (.int l4), some (.int l5), y6], [.int l3, .int l2, .int l5, .ref 198], (223, kc, ks, pd_H g v))) rfl ?_
        obtain ⟨q3, hq3, h⟩ := pd_bind h
        refine ev_callv pp_Mo_truth rfl rfl rfl rfl (s_Mo_valueOf hq3) ?_
        refine ev_gos pp_Mo_truth 2 (S' := (37, [some (.ref 198), some (.int l1), some (.int l2), some (.int l3), some (.int l4), some (.int l5), some (.int q3.1)], [.int q3.1], (223, kc, ks, pd_H g q3.2))) rfl ?_
        refine ev_gos pp_Mo_truth 1 (S' := (bif decide (q3.1 = 0) then 60 else 40, [some (.ref 198), some (.int l1), some (.int l2), some (.int l3), some (.int l4), some (.int l5), some (.int q3.1)], [], (223, kc, ks, pd_H g q3.2))) rfl ?_
        rcases pd_cases h with ⟨hb4, h⟩ | ⟨hb4, h⟩
        · rw [hb4]
          refine ev_gos pp_Mo_truth 4 (S' := (6, [some (.ref 198), some (.int l1), some (.int l2), some (.int l3), some (.int l4), some (.int (l5 + (1 : Int32))), some (.int q3.1)], [], (223, kc, ks, pd_H g q3.2))) rfl ?_
          exact ih _ _ _ _ _ _ _ _  h
        · rw [hb4]
          refine ev_gos pp_Mo_truth 3 (S' := (46, [some (.ref 198), some (.int l1), some (.int l2), some (.int l3), some (.int l4), some (.int l5), some (.int q3.1)], [.int l5, .ref 209], (223, kc, ks, pd_H g q3.2))) rfl ?_
          obtain ⟨hc5, h⟩ := pd_chk h
          refine ev_zald pp_Mo_truth rfl (fun _ => rfl) hc5 ?_
          refine ev_gos pp_Mo_truth 0 (S' := (47, [some (.ref 198), some (.int l1), some (.int l2), some (.int l3), some (.int l4), some (.int l5), some (.int q3.1)], [.int (q3.2 209 l5.toNatClampNeg)], (223, kc, ks, pd_H g q3.2))) rfl ?_
          refine ev_gos pp_Mo_truth 1 (S' := (bif !(decide ((q3.2 209 l5.toNatClampNeg) = 0)) then 60 else 50, [some (.ref 198), some (.int l1), some (.int l2), some (.int l3), some (.int l4), some (.int l5), some (.int q3.1)], [], (223, kc, ks, pd_H g q3.2))) rfl ?_
          rcases pd_cases h with ⟨hb6, h⟩ | ⟨hb6, h⟩
          · rw [hb6]
            refine ev_gos pp_Mo_truth 4 (S' := (6, [some (.ref 198), some (.int l1), some (.int l2), some (.int l3), some (.int l4), some (.int (l5 + (1 : Int32))), some (.int q3.1)], [], (223, kc, ks, pd_H g q3.2))) rfl ?_
            exact ih _ _ _ _ _ _ _ _  h
          · rw [hb6]
            refine ev_gos pp_Mo_truth 9 (S' := (6, [some (.ref 198), some (.int l1), some (.int l2), some (.int l3), some (.int (l4 ||| ((1 : Int32) <<< (l5 &&& 31)))), some (.int (l5 + (1 : Int32))), some (.int q3.1)], [], (223, kc, ks, pd_H g q3.2))) rfl ?_
            exact ih _ _ _ _ _ _ _ _  h
      · rw [hb2]
        refine ev_gos pp_Mo_truth 3 (S' := (6, [some (.ref 198), some (.int l1), some (.int l2), some (.int l3), some (.int l4), some (.int (l5 + (1 : Int32))), y6], [], (223, kc, ks, pd_H g v))) rfl ?_
        exact ih _ _ _ _ _ _ _ _  h
def d_Mo_truth (w : Nat) (l1 : Int32) (l2 : Int32) (l3 : Int32) (v : pd_V) : Option (Int32 × pd_V) :=
  d_Mo_truth_6 w w l1 l2 l3 (0 : Int32) (0 : Int32) v
theorem s_Mo_truth {w : Nat} {l1 : Int32} {l2 : Int32} {l3 : Int32} {v : pd_V} {q : (Int32 × pd_V)}  (h : d_Mo_truth w l1 l2 l3 v = some q) : pm_ev (pj_P xs L) (d + 4) 129 (0, [some (.ref 198), some (.int l1), some (.int l2), some (.int l3), none, none, none], [], (223, kc, ks, pd_H g v)) (.inl (some (.int q.1)), (223, kc, ks, pd_H g q.2)) := by
  unfold d_Mo_truth at h
  refine ev_gos pp_Mo_truth 4 (S' := (6, [some (.ref 198), some (.int l1), some (.int l2), some (.int l3), some (.int (0 : Int32)), some (.int (0 : Int32)), none], [], (223, kc, ks, pd_H g v))) rfl ?_
  exact s_Mo_truth_6 _ _ _ _ _ _ _ _ _  h
theorem pp_Mo_behind {xs : Nat → Int32} {L : Nat} : (pj_P xs L 134).1 = fun S => pm_look tb_Mo_behind S.1 S := rfl
def d_Mo_behind_4 (w : Nat) (f : Nat) (l0 : Nat) (nl0 : Nat) (l2 : Int32) (l3 : Int32) (v : pd_V) : Option Int32 := match f with
  | 0 => none
  | f + 1 =>
    bif pm_in l3 nl0 then
    bif !(decide ((v l0 l3.toNatClampNeg) = (125 : Int32))) then
      bif pm_in l3 nl0 then
      bif !(decide ((v l0 l3.toNatClampNeg) = (123 : Int32))) then
        bif pm_in l3 nl0 then
        bif !(decide ((v l0 l3.toNatClampNeg) = (125 : Int32))) then
          d_Mo_behind_4 w f l0 nl0 l2 (l3 + (1 : Int32)) v
        else
          d_Mo_behind_4 w f l0 nl0 (l2 - (1 : Int32)) (l3 + (1 : Int32)) v
        else none
      else
        d_Mo_behind_4 w f l0 nl0 (l2 + (1 : Int32)) (l3 + (1 : Int32)) v
      else none
    else
      bif decide (l2 ≤ (1 : Int32)) then
        some (l3 + (1 : Int32))
      else
        bif pm_in l3 nl0 then
        bif !(decide ((v l0 l3.toNatClampNeg) = (123 : Int32))) then
          bif pm_in l3 nl0 then
          bif !(decide ((v l0 l3.toNatClampNeg) = (125 : Int32))) then
            d_Mo_behind_4 w f l0 nl0 l2 (l3 + (1 : Int32)) v
          else
            d_Mo_behind_4 w f l0 nl0 (l2 - (1 : Int32)) (l3 + (1 : Int32)) v
          else none
        else
          d_Mo_behind_4 w f l0 nl0 (l2 + (1 : Int32)) (l3 + (1 : Int32)) v
        else none
    else none
theorem s_Mo_behind_4 {w : Nat} : ∀ (f : Nat) (l0 : Nat) (nl0 : Nat) (l2 : Int32) (l3 : Int32) (v : pd_V) (y1 : Int32) (q : Int32) (hl0 : pd_ai g l0 nl0), d_Mo_behind_4 w f l0 nl0 l2 l3 v = some q → pm_ev (pj_P xs L) d 134 (4, [some (.ref l0), some (.int y1), some (.int l2), some (.int l3)], [], (223, kc, ks, pd_H g v)) (.inl (some (.int q)), (223, kc, ks, pd_H g v)) := by
  intro f
  induction f with
  | zero => intro l0 nl0 l2 l3 v y1 q hl0 h; exact nomatch (show (none : Option Int32) = some q from h)
  | succ f ih =>
    intro l0 nl0 l2 l3 v y1 q hl0 h
    rw [d_Mo_behind_4] at h
    refine ev_gos pp_Mo_behind 2 (S' := (6, [some (.ref l0), some (.int y1), some (.int l2), some (.int l3)], [.int l3, .ref l0], (223, kc, ks, pd_H g v))) rfl ?_
    obtain ⟨hc1, h⟩ := pd_chk h
    refine ev_iald pp_Mo_behind rfl hl0 hc1 ?_
    refine ev_gos pp_Mo_behind 1 (S' := (9, [some (.ref l0), some (.int y1), some (.int l2), some (.int l3)], [.int (125 : Int32), .int (v l0 l3.toNatClampNeg)], (223, kc, ks, pd_H g v))) rfl ?_
    refine ev_gos pp_Mo_behind 1 (S' := (bif !(decide ((v l0 l3.toNatClampNeg) = (125 : Int32))) then 17 else 12, [some (.ref l0), some (.int y1), some (.int l2), some (.int l3)], [], (223, kc, ks, pd_H g v))) rfl ?_
    rcases pd_cases h with ⟨hb2, h⟩ | ⟨hb2, h⟩
    · rw [hb2]
      refine ev_gos pp_Mo_behind 2 (S' := (19, [some (.ref l0), some (.int y1), some (.int l2), some (.int l3)], [.int l3, .ref l0], (223, kc, ks, pd_H g v))) rfl ?_
      obtain ⟨hc3, h⟩ := pd_chk h
      refine ev_iald pp_Mo_behind rfl hl0 hc3 ?_
      refine ev_gos pp_Mo_behind 1 (S' := (22, [some (.ref l0), some (.int y1), some (.int l2), some (.int l3)], [.int (123 : Int32), .int (v l0 l3.toNatClampNeg)], (223, kc, ks, pd_H g v))) rfl ?_
      refine ev_gos pp_Mo_behind 1 (S' := (bif !(decide ((v l0 l3.toNatClampNeg) = (123 : Int32))) then 31 else 25, [some (.ref l0), some (.int y1), some (.int l2), some (.int l3)], [], (223, kc, ks, pd_H g v))) rfl ?_
      rcases pd_cases h with ⟨hb4, h⟩ | ⟨hb4, h⟩
      · rw [hb4]
        refine ev_gos pp_Mo_behind 2 (S' := (33, [some (.ref l0), some (.int y1), some (.int l2), some (.int l3)], [.int l3, .ref l0], (223, kc, ks, pd_H g v))) rfl ?_
        obtain ⟨hc5, h⟩ := pd_chk h
        refine ev_iald pp_Mo_behind rfl hl0 hc5 ?_
        refine ev_gos pp_Mo_behind 1 (S' := (36, [some (.ref l0), some (.int y1), some (.int l2), some (.int l3)], [.int (125 : Int32), .int (v l0 l3.toNatClampNeg)], (223, kc, ks, pd_H g v))) rfl ?_
        refine ev_gos pp_Mo_behind 1 (S' := (bif !(decide ((v l0 l3.toNatClampNeg) = (125 : Int32))) then 45 else 39, [some (.ref l0), some (.int y1), some (.int l2), some (.int l3)], [], (223, kc, ks, pd_H g v))) rfl ?_
        rcases pd_cases h with ⟨hb6, h⟩ | ⟨hb6, h⟩
        · rw [hb6]
          refine ev_gos pp_Mo_behind 4 (S' := (4, [some (.ref l0), some (.int y1), some (.int l2), some (.int (l3 + (1 : Int32)))], [], (223, kc, ks, pd_H g v))) rfl ?_
          exact ih _ _ _ _ _ _ _ hl0 h
        · rw [hb6]
          refine ev_gos pp_Mo_behind 7 (S' := (4, [some (.ref l0), some (.int y1), some (.int (l2 - (1 : Int32))), some (.int (l3 + (1 : Int32)))], [], (223, kc, ks, pd_H g v))) rfl ?_
          exact ih _ _ _ _ _ _ _ hl0 h
      · rw [hb4]
        refine ev_gos pp_Mo_behind 7 (S' := (4, [some (.ref l0), some (.int y1), some (.int (l2 + (1 : Int32))), some (.int (l3 + (1 : Int32)))], [], (223, kc, ks, pd_H g v))) rfl ?_
        exact ih _ _ _ _ _ _ _ hl0 h
    · rw [hb2]
      refine ev_gos pp_Mo_behind 2 (S' := (14, [some (.ref l0), some (.int y1), some (.int l2), some (.int l3)], [.int (1 : Int32), .int l2], (223, kc, ks, pd_H g v))) rfl ?_
      refine ev_gos pp_Mo_behind 1 (S' := (bif decide (l2 ≤ (1 : Int32)) then 53 else 17, [some (.ref l0), some (.int y1), some (.int l2), some (.int l3)], [], (223, kc, ks, pd_H g v))) rfl ?_
      rcases pd_cases h with ⟨hb7, h⟩ | ⟨hb7, h⟩
      · rw [hb7]
        refine ev_gos pp_Mo_behind 3 (S' := (56, [some (.ref l0), some (.int y1), some (.int l2), some (.int l3)], [.int (l3 + (1 : Int32))], (223, kc, ks, pd_H g v))) rfl ?_
        cases h
        exact ev_fin pp_Mo_behind rfl
      · rw [hb7]
        refine ev_gos pp_Mo_behind 2 (S' := (19, [some (.ref l0), some (.int y1), some (.int l2), some (.int l3)], [.int l3, .ref l0], (223, kc, ks, pd_H g v))) rfl ?_
        obtain ⟨hc8, h⟩ := pd_chk h
        refine ev_iald pp_Mo_behind rfl hl0 hc8 ?_
        refine ev_gos pp_Mo_behind 1 (S' := (22, [some (.ref l0), some (.int y1), some (.int l2), some (.int l3)], [.int (123 : Int32), .int (v l0 l3.toNatClampNeg)], (223, kc, ks, pd_H g v))) rfl ?_
        refine ev_gos pp_Mo_behind 1 (S' := (bif !(decide ((v l0 l3.toNatClampNeg) = (123 : Int32))) then 31 else 25, [some (.ref l0), some (.int y1), some (.int l2), some (.int l3)], [], (223, kc, ks, pd_H g v))) rfl ?_
        rcases pd_cases h with ⟨hb9, h⟩ | ⟨hb9, h⟩
        · rw [hb9]
          refine ev_gos pp_Mo_behind 2 (S' := (33, [some (.ref l0), some (.int y1), some (.int l2), some (.int l3)], [.int l3, .ref l0], (223, kc, ks, pd_H g v))) rfl ?_
          obtain ⟨hc10, h⟩ := pd_chk h
          refine ev_iald pp_Mo_behind rfl hl0 hc10 ?_
          refine ev_gos pp_Mo_behind 1 (S' := (36, [some (.ref l0), some (.int y1), some (.int l2), some (.int l3)], [.int (125 : Int32), .int (v l0 l3.toNatClampNeg)], (223, kc, ks, pd_H g v))) rfl ?_
          refine ev_gos pp_Mo_behind 1 (S' := (bif !(decide ((v l0 l3.toNatClampNeg) = (125 : Int32))) then 45 else 39, [some (.ref l0), some (.int y1), some (.int l2), some (.int l3)], [], (223, kc, ks, pd_H g v))) rfl ?_
          rcases pd_cases h with ⟨hb11, h⟩ | ⟨hb11, h⟩
          · rw [hb11]
            refine ev_gos pp_Mo_behind 4 (S' := (4, [some (.ref l0), some (.int y1), some (.int l2), some (.int (l3 + (1 : Int32)))], [], (223, kc, ks, pd_H g v))) rfl ?_
            exact ih _ _ _ _ _ _ _ hl0 h
          · rw [hb11]
            refine ev_gos pp_Mo_behind 7 (S' := (4, [some (.ref l0), some (.int y1), some (.int (l2 - (1 : Int32))), some (.int (l3 + (1 : Int32)))], [], (223, kc, ks, pd_H g v))) rfl ?_
            exact ih _ _ _ _ _ _ _ hl0 h
        · rw [hb9]
          refine ev_gos pp_Mo_behind 7 (S' := (4, [some (.ref l0), some (.int y1), some (.int (l2 + (1 : Int32))), some (.int (l3 + (1 : Int32)))], [], (223, kc, ks, pd_H g v))) rfl ?_
          exact ih _ _ _ _ _ _ _ hl0 h
def d_Mo_behind (w : Nat) (l0 : Nat) (nl0 : Nat) (l1 : Int32) (v : pd_V) : Option Int32 :=
  d_Mo_behind_4 w w l0 nl0 (0 : Int32) l1 v
theorem s_Mo_behind {w : Nat} {l0 : Nat} {nl0 : Nat} {l1 : Int32} {v : pd_V} {q : Int32} (hl0 : pd_ai g l0 nl0) (h : d_Mo_behind w l0 nl0 l1 v = some q) : pm_ev (pj_P xs L) d 134 (0, [some (.ref l0), some (.int l1), none, none], [], (223, kc, ks, pd_H g v)) (.inl (some (.int q)), (223, kc, ks, pd_H g v)) := by
  unfold d_Mo_behind at h
  refine ev_gos pp_Mo_behind 4 (S' := (4, [some (.ref l0), some (.int l1), some (.int (0 : Int32)), some (.int l1)], [], (223, kc, ks, pd_H g v))) rfl ?_
  exact s_Mo_behind_4 _ _ _ _ _ _ _ _ hl0 h
theorem pp_Mo_shuts {xs : Nat → Int32} {L : Nat} : (pj_P xs L 126).1 = fun S => pm_look tb_Mo_shuts S.1 S := rfl
def d_Mo_shuts (w : Nat) (l1 : Int32) (v : pd_V) : Option (Int32 × pd_V) :=
  bif pm_in ((v 198 35) - (1 : Int32)) 5 then
  bif decide ((v 216 (((v 198 35) - (1 : Int32)).toNatClampNeg)) < 0) then
    bif !(decide ((v 216 (((v 198 35) - (1 : Int32)).toNatClampNeg)) = (-1 : Int32))) then
      bif !(decide ((0 : Int32) = 0)) then
        bif pm_in ((v 198 35) - (1 : Int32)) 5 then
        (d_Mo_going w (v 218 (((v 198 35) - (1 : Int32)).toNatClampNeg)) v).bind fun q6 =>
        bif !(decide (q6 = 0)) then
          bif pm_in ((v 198 35) - (1 : Int32)) 5 then
          some ((l1 + (2 : Int32)), (pd_w (pd_w v 216 (((v 198 35) - (1 : Int32)).toNatClampNeg) (-2 : Int32)) 198 36 q6))
          else none
        else
          (d_Mo_behind w 200 160 (l1 + (1 : Int32)) v).bind fun q9 =>
          (d_Mo_goOut q9 v).bind fun q10 =>
          some (q10.1, q10.2)
        else none
      else
        (d_Mo_goOut (l1 + (1 : Int32)) v).bind fun q11 =>
        some (q11.1, q11.2)
    else
      bif decide ((v 198 4) ≤ (l1 + (1 : Int32))) then
        bif !(decide ((0 : Int32) = 0)) then
          bif pm_in ((v 198 35) - (1 : Int32)) 5 then
          (d_Mo_going w (v 218 (((v 198 35) - (1 : Int32)).toNatClampNeg)) v).bind fun q15 =>
          bif !(decide (q15 = 0)) then
            bif pm_in ((v 198 35) - (1 : Int32)) 5 then
            some ((l1 + (2 : Int32)), (pd_w (pd_w v 216 (((v 198 35) - (1 : Int32)).toNatClampNeg) (-2 : Int32)) 198 36 q15))
            else none
          else
            (d_Mo_behind w 200 160 (l1 + (1 : Int32)) v).bind fun q18 =>
            (d_Mo_goOut q18 v).bind fun q19 =>
            some (q19.1, q19.2)
          else none
        else
          (d_Mo_goOut (l1 + (1 : Int32)) v).bind fun q20 =>
          some (q20.1, q20.2)
      else
        bif pm_in (l1 + (1 : Int32)) 160 then
        bif !(decide ((v 200 ((l1 + (1 : Int32)).toNatClampNeg)) = (123 : Int32))) then
          bif !(decide ((0 : Int32) = 0)) then
            bif pm_in ((v 198 35) - (1 : Int32)) 5 then
            (d_Mo_going w (v 218 (((v 198 35) - (1 : Int32)).toNatClampNeg)) v).bind fun q25 =>
            bif !(decide (q25 = 0)) then
              bif pm_in ((v 198 35) - (1 : Int32)) 5 then
              some ((l1 + (2 : Int32)), (pd_w (pd_w v 216 (((v 198 35) - (1 : Int32)).toNatClampNeg) (-2 : Int32)) 198 36 q25))
              else none
            else
              (d_Mo_behind w 200 160 (l1 + (1 : Int32)) v).bind fun q28 =>
              (d_Mo_goOut q28 v).bind fun q29 =>
              some (q29.1, q29.2)
            else none
          else
            (d_Mo_goOut (l1 + (1 : Int32)) v).bind fun q30 =>
            some (q30.1, q30.2)
        else
          bif !(decide ((1 : Int32) = 0)) then
            bif pm_in ((v 198 35) - (1 : Int32)) 5 then
            (d_Mo_going w (v 218 (((v 198 35) - (1 : Int32)).toNatClampNeg)) v).bind fun q33 =>
            bif !(decide (q33 = 0)) then
              bif pm_in ((v 198 35) - (1 : Int32)) 5 then
              some ((l1 + (2 : Int32)), (pd_w (pd_w v 216 (((v 198 35) - (1 : Int32)).toNatClampNeg) (-2 : Int32)) 198 36 q33))
              else none
            else
              (d_Mo_behind w 200 160 (l1 + (1 : Int32)) v).bind fun q36 =>
              (d_Mo_goOut q36 v).bind fun q37 =>
              some (q37.1, q37.2)
            else none
          else
            (d_Mo_goOut (l1 + (1 : Int32)) v).bind fun q38 =>
            some (q38.1, q38.2)
        else none
  else
    (d_Mo_going w (v 198 36) v).bind fun q39 =>
    bif !(decide (q39 = 0)) then
      (d_Mo_issues w q39 v).bind fun q41 =>
      bif !(decide (q41.1 = 0)) then
        (d_Mo_truth w q39 ((v 216 (((v 198 35) - (1 : Int32)).toNatClampNeg)) + (1 : Int32)) (v 216 (((v 198 35) - (1 : Int32)).toNatClampNeg)) q41.2).bind fun q43 =>
        bif !(decide (q43.1 = 0)) then
          (d_Mo_upTo w 200 160 (v 216 (((v 198 35) - (1 : Int32)).toNatClampNeg)) (123 : Int32) (123 : Int32) (pd_w q43.2 198 36 q43.1)).bind fun q45 =>
          some ((q45 + (1 : Int32)), (pd_w q43.2 198 36 q43.1))
        else
          (d_Mo_goOut (l1 + (1 : Int32)) (pd_w q43.2 198 36 q43.1)).bind fun q46 =>
          some (q46.1, q46.2)
      else
        some ((-1 : Int32), q41.2)
    else
      (d_Mo_goOut (l1 + (1 : Int32)) v).bind fun q47 =>
      some (q47.1, q47.2)
  else none
set_option maxRecDepth 100000 in
set_option maxHeartbeats 4000000 in
theorem s_Mo_shuts {w : Nat} {l1 : Int32} {v : pd_V} {q : (Int32 × pd_V)}  (h : d_Mo_shuts w l1 v = some q) : pm_ev (pj_P xs L) (d + 5) 126 (0, [some (.ref 198), some (.int l1), none, none, none], [], (223, kc, ks, pd_H g v)) (.inl (some (.int q.1)), (223, kc, ks, pd_H g q.2)) := by
  unfold d_Mo_shuts at h
  refine ev_gos pp_Mo_shuts 6 (S' := (10, [some (.ref 198), some (.int l1), none, none, none], [.int ((v 198 35) - (1 : Int32)), .ref 216], (223, kc, ks, pd_H g v))) rfl ?_
  obtain ⟨hc1, h⟩ := pd_chk h
  refine ev_iald pp_Mo_shuts rfl (fun _ => rfl) hc1 ?_
  refine ev_gos pp_Mo_shuts 2 (S' := (13, [some (.ref 198), some (.int l1), some (.int (v 216 (((v 198 35) - (1 : Int32)).toNatClampNeg))), none, none], [.int (v 216 (((v 198 35) - (1 : Int32)).toNatClampNeg))], (223, kc, ks, pd_H g v))) rfl ?_
  refine ev_gos pp_Mo_shuts 1 (S' := (bif decide ((v 216 (((v 198 35) - (1 : Int32)).toNatClampNeg)) < 0) then 92 else 16, [some (.ref 198), some (.int l1), some (.int (v 216 (((v 198 35) - (1 : Int32)).toNatClampNeg))), none, none], [], (223, kc, ks, pd_H g v))) rfl ?_
  rcases pd_cases h with ⟨hb2, h⟩ | ⟨hb2, h⟩
  · rw [hb2]
    refine ev_gos pp_Mo_shuts 2 (S' := (94, [some (.ref 198), some (.int l1), some (.int (v 216 (((v 198 35) - (1 : Int32)).toNatClampNeg))), none, none], [.int (-1 : Int32), .int (v 216 (((v 198 35) - (1 : Int32)).toNatClampNeg))], (223, kc, ks, pd_H g v))) rfl ?_
    refine ev_gos pp_Mo_shuts 1 (S' := (bif !(decide ((v 216 (((v 198 35) - (1 : Int32)).toNatClampNeg)) = (-1 : Int32))) then 124 else 97, [some (.ref 198), some (.int l1), some (.int (v 216 (((v 198 35) - (1 : Int32)).toNatClampNeg))), none, none], [], (223, kc, ks, pd_H g v))) rfl ?_
    rcases pd_cases h with ⟨hb3, h⟩ | ⟨hb3, h⟩
    · rw [hb3]
      refine ev_gos pp_Mo_shuts 3 (S' := (127, [some (.ref 198), some (.int l1), some (.int (v 216 (((v 198 35) - (1 : Int32)).toNatClampNeg))), some (.int (0 : Int32)), none], [.int (0 : Int32)], (223, kc, ks, pd_H g v))) rfl ?_
      refine ev_gos pp_Mo_shuts 1 (S' := (bif !(decide ((0 : Int32) = 0)) then 138 else 130, [some (.ref 198), some (.int l1), some (.int (v 216 (((v 198 35) - (1 : Int32)).toNatClampNeg))), some (.int (0 : Int32)), none], [], (223, kc, ks, pd_H g v))) rfl ?_
      rcases pd_cases h with ⟨hb4, h⟩ | ⟨hb4, h⟩
      · rw [hb4]
        refine ev_gos pp_Mo_shuts 7 (S' := (149, [some (.ref 198), some (.int l1), some (.int (v 216 (((v 198 35) - (1 : Int32)).toNatClampNeg))), some (.int (0 : Int32)), none], [.int ((v 198 35) - (1 : Int32)), .ref 218, .ref 198], (223, kc, ks, pd_H g v))) rfl ?_
        obtain ⟨hc5, h⟩ := pd_chk h
        refine ev_iald pp_Mo_shuts rfl (fun _ => rfl) hc5 ?_
        refine ev_gos pp_Mo_shuts 0 (S' := (150, [some (.ref 198), some (.int l1), some (.int (v 216 (((v 198 35) - (1 : Int32)).toNatClampNeg))), some (.int (0 : Int32)), none], [.int (v 218 (((v 198 35) - (1 : Int32)).toNatClampNeg)), .ref 198], (223, kc, ks, pd_H g v))) rfl ?_
        obtain ⟨q6, hq6, h⟩ := pd_bind h
        refine ev_callv pp_Mo_shuts rfl rfl rfl rfl (s_Mo_going hq6) ?_
        refine ev_gos pp_Mo_shuts 2 (S' := (157, [some (.ref 198), some (.int l1), some (.int (v 216 (((v 198 35) - (1 : Int32)).toNatClampNeg))), some (.int (0 : Int32)), some (.int q6)], [.int q6], (223, kc, ks, pd_H g v))) rfl ?_
        refine ev_gos pp_Mo_shuts 1 (S' := (bif !(decide (q6 = 0)) then 175 else 160, [some (.ref 198), some (.int l1), some (.int (v 216 (((v 198 35) - (1 : Int32)).toNatClampNeg))), some (.int (0 : Int32)), some (.int q6)], [], (223, kc, ks, pd_H g v))) rfl ?_
        rcases pd_cases h with ⟨hb7, h⟩ | ⟨hb7, h⟩
        · rw [hb7]
          refine ev_gos pp_Mo_shuts 7 (S' := (187, [some (.ref 198), some (.int l1), some (.int (v 216 (((v 198 35) - (1 : Int32)).toNatClampNeg))), some (.int (0 : Int32)), some (.int q6)], [.int (-2 : Int32), .int ((v 198 35) - (1 : Int32)), .ref 216], (223, kc, ks, pd_H g v))) rfl ?_
          obtain ⟨hc8, h⟩ := pd_chk h
          refine ev_iast pp_Mo_shuts rfl (fun _ => rfl) hc8 ?_
          refine ev_gos pp_Mo_shuts 2 (S' := (191, [some (.ref 198), some (.int l1), some (.int (v 216 (((v 198 35) - (1 : Int32)).toNatClampNeg))), some (.int (0 : Int32)), some (.int q6)], [.int q6, .ref 198], (223, kc, ks, pd_H g (pd_w v 216 (((v 198 35) - (1 : Int32)).toNatClampNeg) (-2 : Int32))))) rfl ?_
          refine ev_put pp_Mo_shuts rfl (fun _ => rfl) rfl rfl rfl ?_
          refine ev_gos pp_Mo_shuts 3 (S' := (197, [some (.ref 198), some (.int l1), some (.int (v 216 (((v 198 35) - (1 : Int32)).toNatClampNeg))), some (.int (0 : Int32)), some (.int q6)], [.int (l1 + (2 : Int32))], (223, kc, ks, pd_H g (pd_w (pd_w v 216 (((v 198 35) - (1 : Int32)).toNatClampNeg) (-2 : Int32)) 198 36 q6)))) rfl ?_
          cases h
          exact ev_fin pp_Mo_shuts rfl
        · rw [hb7]
          refine ev_gos pp_Mo_shuts 6 (S' := (168, [some (.ref 198), some (.int l1), some (.int (v 216 (((v 198 35) - (1 : Int32)).toNatClampNeg))), some (.int (0 : Int32)), some (.int q6)], [.int (l1 + (1 : Int32)), .ref 200, .ref 198], (223, kc, ks, pd_H g v))) rfl ?_
          obtain ⟨q9, hq9, h⟩ := pd_bind h
          refine ev_call pp_Mo_shuts rfl rfl rfl (s_Mo_behind (fun _ => rfl) hq9) ?_
          refine ev_gos pp_Mo_shuts 0 (S' := (171, [some (.ref 198), some (.int l1), some (.int (v 216 (((v 198 35) - (1 : Int32)).toNatClampNeg))), some (.int (0 : Int32)), some (.int q6)], [.int q9, .ref 198], (223, kc, ks, pd_H g v))) rfl ?_
          obtain ⟨q10, hq10, h⟩ := pd_bind h
          refine ev_callv pp_Mo_shuts rfl rfl rfl rfl (s_Mo_goOut hq10) ?_
          refine ev_gos pp_Mo_shuts 0 (S' := (174, [some (.ref 198), some (.int l1), some (.int (v 216 (((v 198 35) - (1 : Int32)).toNatClampNeg))), some (.int (0 : Int32)), some (.int q6)], [.int q10.1], (223, kc, ks, pd_H g q10.2))) rfl ?_
          cases h
          exact ev_fin pp_Mo_shuts rfl
      · rw [hb4]
        refine ev_gos pp_Mo_shuts 4 (S' := (134, [some (.ref 198), some (.int l1), some (.int (v 216 (((v 198 35) - (1 : Int32)).toNatClampNeg))), some (.int (0 : Int32)), none], [.int (l1 + (1 : Int32)), .ref 198], (223, kc, ks, pd_H g v))) rfl ?_
        obtain ⟨q11, hq11, h⟩ := pd_bind h
        refine ev_callv pp_Mo_shuts rfl rfl rfl rfl (s_Mo_goOut hq11) ?_
        refine ev_gos pp_Mo_shuts 0 (S' := (137, [some (.ref 198), some (.int l1), some (.int (v 216 (((v 198 35) - (1 : Int32)).toNatClampNeg))), some (.int (0 : Int32)), none], [.int q11.1], (223, kc, ks, pd_H g q11.2))) rfl ?_
        cases h
        exact ev_fin pp_Mo_shuts rfl
    · rw [hb3]
      refine ev_gos pp_Mo_shuts 5 (S' := (104, [some (.ref 198), some (.int l1), some (.int (v 216 (((v 198 35) - (1 : Int32)).toNatClampNeg))), none, none], [.int (v 198 4), .int (l1 + (1 : Int32))], (223, kc, ks, pd_H g v))) rfl ?_
      refine ev_gos pp_Mo_shuts 1 (S' := (bif decide ((v 198 4) ≤ (l1 + (1 : Int32))) then 124 else 107, [some (.ref 198), some (.int l1), some (.int (v 216 (((v 198 35) - (1 : Int32)).toNatClampNeg))), none, none], [], (223, kc, ks, pd_H g v))) rfl ?_
      rcases pd_cases h with ⟨hb12, h⟩ | ⟨hb12, h⟩
      · rw [hb12]
        refine ev_gos pp_Mo_shuts 3 (S' := (127, [some (.ref 198), some (.int l1), some (.int (v 216 (((v 198 35) - (1 : Int32)).toNatClampNeg))), some (.int (0 : Int32)), none], [.int (0 : Int32)], (223, kc, ks, pd_H g v))) rfl ?_
        refine ev_gos pp_Mo_shuts 1 (S' := (bif !(decide ((0 : Int32) = 0)) then 138 else 130, [some (.ref 198), some (.int l1), some (.int (v 216 (((v 198 35) - (1 : Int32)).toNatClampNeg))), some (.int (0 : Int32)), none], [], (223, kc, ks, pd_H g v))) rfl ?_
        rcases pd_cases h with ⟨hb13, h⟩ | ⟨hb13, h⟩
        · rw [hb13]
          refine ev_gos pp_Mo_shuts 7 (S' := (149, [some (.ref 198), some (.int l1), some (.int (v 216 (((v 198 35) - (1 : Int32)).toNatClampNeg))), some (.int (0 : Int32)), none], [.int ((v 198 35) - (1 : Int32)), .ref 218, .ref 198], (223, kc, ks, pd_H g v))) rfl ?_
          obtain ⟨hc14, h⟩ := pd_chk h
          refine ev_iald pp_Mo_shuts rfl (fun _ => rfl) hc14 ?_
          refine ev_gos pp_Mo_shuts 0 (S' := (150, [some (.ref 198), some (.int l1), some (.int (v 216 (((v 198 35) - (1 : Int32)).toNatClampNeg))), some (.int (0 : Int32)), none], [.int (v 218 (((v 198 35) - (1 : Int32)).toNatClampNeg)), .ref 198], (223, kc, ks, pd_H g v))) rfl ?_
          obtain ⟨q15, hq15, h⟩ := pd_bind h
          refine ev_callv pp_Mo_shuts rfl rfl rfl rfl (s_Mo_going hq15) ?_
          refine ev_gos pp_Mo_shuts 2 (S' := (157, [some (.ref 198), some (.int l1), some (.int (v 216 (((v 198 35) - (1 : Int32)).toNatClampNeg))), some (.int (0 : Int32)), some (.int q15)], [.int q15], (223, kc, ks, pd_H g v))) rfl ?_
          refine ev_gos pp_Mo_shuts 1 (S' := (bif !(decide (q15 = 0)) then 175 else 160, [some (.ref 198), some (.int l1), some (.int (v 216 (((v 198 35) - (1 : Int32)).toNatClampNeg))), some (.int (0 : Int32)), some (.int q15)], [], (223, kc, ks, pd_H g v))) rfl ?_
          rcases pd_cases h with ⟨hb16, h⟩ | ⟨hb16, h⟩
          · rw [hb16]
            refine ev_gos pp_Mo_shuts 7 (S' := (187, [some (.ref 198), some (.int l1), some (.int (v 216 (((v 198 35) - (1 : Int32)).toNatClampNeg))), some (.int (0 : Int32)), some (.int q15)], [.int (-2 : Int32), .int ((v 198 35) - (1 : Int32)), .ref 216], (223, kc, ks, pd_H g v))) rfl ?_
            obtain ⟨hc17, h⟩ := pd_chk h
            refine ev_iast pp_Mo_shuts rfl (fun _ => rfl) hc17 ?_
            refine ev_gos pp_Mo_shuts 2 (S' := (191, [some (.ref 198), some (.int l1), some (.int (v 216 (((v 198 35) - (1 : Int32)).toNatClampNeg))), some (.int (0 : Int32)), some (.int q15)], [.int q15, .ref 198], (223, kc, ks, pd_H g (pd_w v 216 (((v 198 35) - (1 : Int32)).toNatClampNeg) (-2 : Int32))))) rfl ?_
            refine ev_put pp_Mo_shuts rfl (fun _ => rfl) rfl rfl rfl ?_
            refine ev_gos pp_Mo_shuts 3 (S' := (197, [some (.ref 198), some (.int l1), some (.int (v 216 (((v 198 35) - (1 : Int32)).toNatClampNeg))), some (.int (0 : Int32)), some (.int q15)], [.int (l1 + (2 : Int32))], (223, kc, ks, pd_H g (pd_w (pd_w v 216 (((v 198 35) - (1 : Int32)).toNatClampNeg) (-2 : Int32)) 198 36 q15)))) rfl ?_
            cases h
            exact ev_fin pp_Mo_shuts rfl
          · rw [hb16]
            refine ev_gos pp_Mo_shuts 6 (S' := (168, [some (.ref 198), some (.int l1), some (.int (v 216 (((v 198 35) - (1 : Int32)).toNatClampNeg))), some (.int (0 : Int32)), some (.int q15)], [.int (l1 + (1 : Int32)), .ref 200, .ref 198], (223, kc, ks, pd_H g v))) rfl ?_
            obtain ⟨q18, hq18, h⟩ := pd_bind h
            refine ev_call pp_Mo_shuts rfl rfl rfl (s_Mo_behind (fun _ => rfl) hq18) ?_
            refine ev_gos pp_Mo_shuts 0 (S' := (171, [some (.ref 198), some (.int l1), some (.int (v 216 (((v 198 35) - (1 : Int32)).toNatClampNeg))), some (.int (0 : Int32)), some (.int q15)], [.int q18, .ref 198], (223, kc, ks, pd_H g v))) rfl ?_
            obtain ⟨q19, hq19, h⟩ := pd_bind h
            refine ev_callv pp_Mo_shuts rfl rfl rfl rfl (s_Mo_goOut hq19) ?_
            refine ev_gos pp_Mo_shuts 0 (S' := (174, [some (.ref 198), some (.int l1), some (.int (v 216 (((v 198 35) - (1 : Int32)).toNatClampNeg))), some (.int (0 : Int32)), some (.int q15)], [.int q19.1], (223, kc, ks, pd_H g q19.2))) rfl ?_
            cases h
            exact ev_fin pp_Mo_shuts rfl
        · rw [hb13]
          refine ev_gos pp_Mo_shuts 4 (S' := (134, [some (.ref 198), some (.int l1), some (.int (v 216 (((v 198 35) - (1 : Int32)).toNatClampNeg))), some (.int (0 : Int32)), none], [.int (l1 + (1 : Int32)), .ref 198], (223, kc, ks, pd_H g v))) rfl ?_
          obtain ⟨q20, hq20, h⟩ := pd_bind h
          refine ev_callv pp_Mo_shuts rfl rfl rfl rfl (s_Mo_goOut hq20) ?_
          refine ev_gos pp_Mo_shuts 0 (S' := (137, [some (.ref 198), some (.int l1), some (.int (v 216 (((v 198 35) - (1 : Int32)).toNatClampNeg))), some (.int (0 : Int32)), none], [.int q20.1], (223, kc, ks, pd_H g q20.2))) rfl ?_
          cases h
          exact ev_fin pp_Mo_shuts rfl
      · rw [hb12]
        refine ev_gos pp_Mo_shuts 5 (S' := (114, [some (.ref 198), some (.int l1), some (.int (v 216 (((v 198 35) - (1 : Int32)).toNatClampNeg))), none, none], [.int (l1 + (1 : Int32)), .ref 200], (223, kc, ks, pd_H g v))) rfl ?_
        obtain ⟨hc21, h⟩ := pd_chk h
        refine ev_iald pp_Mo_shuts rfl (fun _ => rfl) hc21 ?_
        refine ev_gos pp_Mo_shuts 1 (S' := (117, [some (.ref 198), some (.int l1), some (.int (v 216 (((v 198 35) - (1 : Int32)).toNatClampNeg))), none, none], [.int (123 : Int32), .int (v 200 ((l1 + (1 : Int32)).toNatClampNeg))], (223, kc, ks, pd_H g v))) rfl ?_
        refine ev_gos pp_Mo_shuts 1 (S' := (bif !(decide ((v 200 ((l1 + (1 : Int32)).toNatClampNeg)) = (123 : Int32))) then 124 else 120, [some (.ref 198), some (.int l1), some (.int (v 216 (((v 198 35) - (1 : Int32)).toNatClampNeg))), none, none], [], (223, kc, ks, pd_H g v))) rfl ?_
        rcases pd_cases h with ⟨hb22, h⟩ | ⟨hb22, h⟩
        · rw [hb22]
          refine ev_gos pp_Mo_shuts 3 (S' := (127, [some (.ref 198), some (.int l1), some (.int (v 216 (((v 198 35) - (1 : Int32)).toNatClampNeg))), some (.int (0 : Int32)), none], [.int (0 : Int32)], (223, kc, ks, pd_H g v))) rfl ?_
          refine ev_gos pp_Mo_shuts 1 (S' := (bif !(decide ((0 : Int32) = 0)) then 138 else 130, [some (.ref 198), some (.int l1), some (.int (v 216 (((v 198 35) - (1 : Int32)).toNatClampNeg))), some (.int (0 : Int32)), none], [], (223, kc, ks, pd_H g v))) rfl ?_
          rcases pd_cases h with ⟨hb23, h⟩ | ⟨hb23, h⟩
          · rw [hb23]
            refine ev_gos pp_Mo_shuts 7 (S' := (149, [some (.ref 198), some (.int l1), some (.int (v 216 (((v 198 35) - (1 : Int32)).toNatClampNeg))), some (.int (0 : Int32)), none], [.int ((v 198 35) - (1 : Int32)), .ref 218, .ref 198], (223, kc, ks, pd_H g v))) rfl ?_
            obtain ⟨hc24, h⟩ := pd_chk h
            refine ev_iald pp_Mo_shuts rfl (fun _ => rfl) hc24 ?_
            refine ev_gos pp_Mo_shuts 0 (S' := (150, [some (.ref 198), some (.int l1), some (.int (v 216 (((v 198 35) - (1 : Int32)).toNatClampNeg))), some (.int (0 : Int32)), none], [.int (v 218 (((v 198 35) - (1 : Int32)).toNatClampNeg)), .ref 198], (223, kc, ks, pd_H g v))) rfl ?_
            obtain ⟨q25, hq25, h⟩ := pd_bind h
            refine ev_callv pp_Mo_shuts rfl rfl rfl rfl (s_Mo_going hq25) ?_
            refine ev_gos pp_Mo_shuts 2 (S' := (157, [some (.ref 198), some (.int l1), some (.int (v 216 (((v 198 35) - (1 : Int32)).toNatClampNeg))), some (.int (0 : Int32)), some (.int q25)], [.int q25], (223, kc, ks, pd_H g v))) rfl ?_
            refine ev_gos pp_Mo_shuts 1 (S' := (bif !(decide (q25 = 0)) then 175 else 160, [some (.ref 198), some (.int l1), some (.int (v 216 (((v 198 35) - (1 : Int32)).toNatClampNeg))), some (.int (0 : Int32)), some (.int q25)], [], (223, kc, ks, pd_H g v))) rfl ?_
            rcases pd_cases h with ⟨hb26, h⟩ | ⟨hb26, h⟩
            · rw [hb26]
              refine ev_gos pp_Mo_shuts 7 (S' := (187, [some (.ref 198), some (.int l1), some (.int (v 216 (((v 198 35) - (1 : Int32)).toNatClampNeg))), some (.int (0 : Int32)), some (.int q25)], [.int (-2 : Int32), .int ((v 198 35) - (1 : Int32)), .ref 216], (223, kc, ks, pd_H g v))) rfl ?_
              obtain ⟨hc27, h⟩ := pd_chk h
              refine ev_iast pp_Mo_shuts rfl (fun _ => rfl) hc27 ?_
              refine ev_gos pp_Mo_shuts 2 (S' := (191, [some (.ref 198), some (.int l1), some (.int (v 216 (((v 198 35) - (1 : Int32)).toNatClampNeg))), some (.int (0 : Int32)), some (.int q25)], [.int q25, .ref 198], (223, kc, ks, pd_H g (pd_w v 216 (((v 198 35) - (1 : Int32)).toNatClampNeg) (-2 : Int32))))) rfl ?_
              refine ev_put pp_Mo_shuts rfl (fun _ => rfl) rfl rfl rfl ?_
              refine ev_gos pp_Mo_shuts 3 (S' := (197, [some (.ref 198), some (.int l1), some (.int (v 216 (((v 198 35) - (1 : Int32)).toNatClampNeg))), some (.int (0 : Int32)), some (.int q25)], [.int (l1 + (2 : Int32))], (223, kc, ks, pd_H g (pd_w (pd_w v 216 (((v 198 35) - (1 : Int32)).toNatClampNeg) (-2 : Int32)) 198 36 q25)))) rfl ?_
              cases h
              exact ev_fin pp_Mo_shuts rfl
            · rw [hb26]
              refine ev_gos pp_Mo_shuts 6 (S' := (168, [some (.ref 198), some (.int l1), some (.int (v 216 (((v 198 35) - (1 : Int32)).toNatClampNeg))), some (.int (0 : Int32)), some (.int q25)], [.int (l1 + (1 : Int32)), .ref 200, .ref 198], (223, kc, ks, pd_H g v))) rfl ?_
              obtain ⟨q28, hq28, h⟩ := pd_bind h
              refine ev_call pp_Mo_shuts rfl rfl rfl (s_Mo_behind (fun _ => rfl) hq28) ?_
              refine ev_gos pp_Mo_shuts 0 (S' := (171, [some (.ref 198), some (.int l1), some (.int (v 216 (((v 198 35) - (1 : Int32)).toNatClampNeg))), some (.int (0 : Int32)), some (.int q25)], [.int q28, .ref 198], (223, kc, ks, pd_H g v))) rfl ?_
              obtain ⟨q29, hq29, h⟩ := pd_bind h
              refine ev_callv pp_Mo_shuts rfl rfl rfl rfl (s_Mo_goOut hq29) ?_
              refine ev_gos pp_Mo_shuts 0 (S' := (174, [some (.ref 198), some (.int l1), some (.int (v 216 (((v 198 35) - (1 : Int32)).toNatClampNeg))), some (.int (0 : Int32)), some (.int q25)], [.int q29.1], (223, kc, ks, pd_H g q29.2))) rfl ?_
              cases h
              exact ev_fin pp_Mo_shuts rfl
          · rw [hb23]
            refine ev_gos pp_Mo_shuts 4 (S' := (134, [some (.ref 198), some (.int l1), some (.int (v 216 (((v 198 35) - (1 : Int32)).toNatClampNeg))), some (.int (0 : Int32)), none], [.int (l1 + (1 : Int32)), .ref 198], (223, kc, ks, pd_H g v))) rfl ?_
            obtain ⟨q30, hq30, h⟩ := pd_bind h
            refine ev_callv pp_Mo_shuts rfl rfl rfl rfl (s_Mo_goOut hq30) ?_
            refine ev_gos pp_Mo_shuts 0 (S' := (137, [some (.ref 198), some (.int l1), some (.int (v 216 (((v 198 35) - (1 : Int32)).toNatClampNeg))), some (.int (0 : Int32)), none], [.int q30.1], (223, kc, ks, pd_H g q30.2))) rfl ?_
            cases h
            exact ev_fin pp_Mo_shuts rfl
        · rw [hb22]
          refine ev_gos pp_Mo_shuts 4 (S' := (127, [some (.ref 198), some (.int l1), some (.int (v 216 (((v 198 35) - (1 : Int32)).toNatClampNeg))), some (.int (1 : Int32)), none], [.int (1 : Int32)], (223, kc, ks, pd_H g v))) rfl ?_
          refine ev_gos pp_Mo_shuts 1 (S' := (bif !(decide ((1 : Int32) = 0)) then 138 else 130, [some (.ref 198), some (.int l1), some (.int (v 216 (((v 198 35) - (1 : Int32)).toNatClampNeg))), some (.int (1 : Int32)), none], [], (223, kc, ks, pd_H g v))) rfl ?_
          rcases pd_cases h with ⟨hb31, h⟩ | ⟨hb31, h⟩
          · rw [hb31]
            refine ev_gos pp_Mo_shuts 7 (S' := (149, [some (.ref 198), some (.int l1), some (.int (v 216 (((v 198 35) - (1 : Int32)).toNatClampNeg))), some (.int (1 : Int32)), none], [.int ((v 198 35) - (1 : Int32)), .ref 218, .ref 198], (223, kc, ks, pd_H g v))) rfl ?_
            obtain ⟨hc32, h⟩ := pd_chk h
            refine ev_iald pp_Mo_shuts rfl (fun _ => rfl) hc32 ?_
            refine ev_gos pp_Mo_shuts 0 (S' := (150, [some (.ref 198), some (.int l1), some (.int (v 216 (((v 198 35) - (1 : Int32)).toNatClampNeg))), some (.int (1 : Int32)), none], [.int (v 218 (((v 198 35) - (1 : Int32)).toNatClampNeg)), .ref 198], (223, kc, ks, pd_H g v))) rfl ?_
            obtain ⟨q33, hq33, h⟩ := pd_bind h
            refine ev_callv pp_Mo_shuts rfl rfl rfl rfl (s_Mo_going hq33) ?_
            refine ev_gos pp_Mo_shuts 2 (S' := (157, [some (.ref 198), some (.int l1), some (.int (v 216 (((v 198 35) - (1 : Int32)).toNatClampNeg))), some (.int (1 : Int32)), some (.int q33)], [.int q33], (223, kc, ks, pd_H g v))) rfl ?_
            refine ev_gos pp_Mo_shuts 1 (S' := (bif !(decide (q33 = 0)) then 175 else 160, [some (.ref 198), some (.int l1), some (.int (v 216 (((v 198 35) - (1 : Int32)).toNatClampNeg))), some (.int (1 : Int32)), some (.int q33)], [], (223, kc, ks, pd_H g v))) rfl ?_
            rcases pd_cases h with ⟨hb34, h⟩ | ⟨hb34, h⟩
            · rw [hb34]
              refine ev_gos pp_Mo_shuts 7 (S' := (187, [some (.ref 198), some (.int l1), some (.int (v 216 (((v 198 35) - (1 : Int32)).toNatClampNeg))), some (.int (1 : Int32)), some (.int q33)], [.int (-2 : Int32), .int ((v 198 35) - (1 : Int32)), .ref 216], (223, kc, ks, pd_H g v))) rfl ?_
              obtain ⟨hc35, h⟩ := pd_chk h
              refine ev_iast pp_Mo_shuts rfl (fun _ => rfl) hc35 ?_
              refine ev_gos pp_Mo_shuts 2 (S' := (191, [some (.ref 198), some (.int l1), some (.int (v 216 (((v 198 35) - (1 : Int32)).toNatClampNeg))), some (.int (1 : Int32)), some (.int q33)], [.int q33, .ref 198], (223, kc, ks, pd_H g (pd_w v 216 (((v 198 35) - (1 : Int32)).toNatClampNeg) (-2 : Int32))))) rfl ?_
              refine ev_put pp_Mo_shuts rfl (fun _ => rfl) rfl rfl rfl ?_
              refine ev_gos pp_Mo_shuts 3 (S' := (197, [some (.ref 198), some (.int l1), some (.int (v 216 (((v 198 35) - (1 : Int32)).toNatClampNeg))), some (.int (1 : Int32)), some (.int q33)], [.int (l1 + (2 : Int32))], (223, kc, ks, pd_H g (pd_w (pd_w v 216 (((v 198 35) - (1 : Int32)).toNatClampNeg) (-2 : Int32)) 198 36 q33)))) rfl ?_
              cases h
              exact ev_fin pp_Mo_shuts rfl
            · rw [hb34]
              refine ev_gos pp_Mo_shuts 6 (S' := (168, [some (.ref 198), some (.int l1), some (.int (v 216 (((v 198 35) - (1 : Int32)).toNatClampNeg))), some (.int (1 : Int32)), some (.int q33)], [.int (l1 + (1 : Int32)), .ref 200, .ref 198], (223, kc, ks, pd_H g v))) rfl ?_
              obtain ⟨q36, hq36, h⟩ := pd_bind h
              refine ev_call pp_Mo_shuts rfl rfl rfl (s_Mo_behind (fun _ => rfl) hq36) ?_
              refine ev_gos pp_Mo_shuts 0 (S' := (171, [some (.ref 198), some (.int l1), some (.int (v 216 (((v 198 35) - (1 : Int32)).toNatClampNeg))), some (.int (1 : Int32)), some (.int q33)], [.int q36, .ref 198], (223, kc, ks, pd_H g v))) rfl ?_
              obtain ⟨q37, hq37, h⟩ := pd_bind h
              refine ev_callv pp_Mo_shuts rfl rfl rfl rfl (s_Mo_goOut hq37) ?_
              refine ev_gos pp_Mo_shuts 0 (S' := (174, [some (.ref 198), some (.int l1), some (.int (v 216 (((v 198 35) - (1 : Int32)).toNatClampNeg))), some (.int (1 : Int32)), some (.int q33)], [.int q37.1], (223, kc, ks, pd_H g q37.2))) rfl ?_
              cases h
              exact ev_fin pp_Mo_shuts rfl
          · rw [hb31]
            refine ev_gos pp_Mo_shuts 4 (S' := (134, [some (.ref 198), some (.int l1), some (.int (v 216 (((v 198 35) - (1 : Int32)).toNatClampNeg))), some (.int (1 : Int32)), none], [.int (l1 + (1 : Int32)), .ref 198], (223, kc, ks, pd_H g v))) rfl ?_
            obtain ⟨q38, hq38, h⟩ := pd_bind h
            refine ev_callv pp_Mo_shuts rfl rfl rfl rfl (s_Mo_goOut hq38) ?_
            refine ev_gos pp_Mo_shuts 0 (S' := (137, [some (.ref 198), some (.int l1), some (.int (v 216 (((v 198 35) - (1 : Int32)).toNatClampNeg))), some (.int (1 : Int32)), none], [.int q38.1], (223, kc, ks, pd_H g q38.2))) rfl ?_
            cases h
            exact ev_fin pp_Mo_shuts rfl
  · rw [hb2]
    refine ev_gos pp_Mo_shuts 3 (S' := (21, [some (.ref 198), some (.int l1), some (.int (v 216 (((v 198 35) - (1 : Int32)).toNatClampNeg))), none, none], [.int (v 198 36), .ref 198], (223, kc, ks, pd_H g v))) rfl ?_
    obtain ⟨q39, hq39, h⟩ := pd_bind h
    refine ev_callv pp_Mo_shuts rfl rfl rfl rfl (s_Mo_going hq39) ?_
    refine ev_gos pp_Mo_shuts 2 (S' := (26, [some (.ref 198), some (.int l1), some (.int (v 216 (((v 198 35) - (1 : Int32)).toNatClampNeg))), some (.int q39), none], [.int q39], (223, kc, ks, pd_H g v))) rfl ?_
    refine ev_gos pp_Mo_shuts 1 (S' := (bif !(decide (q39 = 0)) then 37 else 29, [some (.ref 198), some (.int l1), some (.int (v 216 (((v 198 35) - (1 : Int32)).toNatClampNeg))), some (.int q39), none], [], (223, kc, ks, pd_H g v))) rfl ?_
    rcases pd_cases h with ⟨hb40, h⟩ | ⟨hb40, h⟩
    · rw [hb40]
      refine ev_gos pp_Mo_shuts 2 (S' := (39, [some (.ref 198), some (.int l1), some (.int (v 216 (((v 198 35) - (1 : Int32)).toNatClampNeg))), some (.int q39), none], [.int q39, .ref 198], (223, kc, ks, pd_H g v))) rfl ?_
      obtain ⟨q41, hq41, h⟩ := pd_bind h
      refine ev_callv pp_Mo_shuts rfl rfl rfl rfl (s_Mo_issues hq41) ?_
      refine ev_gos pp_Mo_shuts 0 (S' := (42, [some (.ref 198), some (.int l1), some (.int (v 216 (((v 198 35) - (1 : Int32)).toNatClampNeg))), some (.int q39), none], [.int q41.1], (223, kc, ks, pd_H g q41.2))) rfl ?_
      refine ev_gos pp_Mo_shuts 1 (S' := (bif !(decide (q41.1 = 0)) then 47 else 45, [some (.ref 198), some (.int l1), some (.int (v 216 (((v 198 35) - (1 : Int32)).toNatClampNeg))), some (.int q39), none], [], (223, kc, ks, pd_H g q41.2))) rfl ?_
      rcases pd_cases h with ⟨hb42, h⟩ | ⟨hb42, h⟩
      · rw [hb42]
        refine ev_gos pp_Mo_shuts 7 (S' := (54, [some (.ref 198), some (.int l1), some (.int (v 216 (((v 198 35) - (1 : Int32)).toNatClampNeg))), some (.int q39), none], [.int (v 216 (((v 198 35) - (1 : Int32)).toNatClampNeg)), .int ((v 216 (((v 198 35) - (1 : Int32)).toNatClampNeg)) + (1 : Int32)), .int q39, .ref 198, .ref 198], (223, kc, ks, pd_H g q41.2))) rfl ?_
        obtain ⟨q43, hq43, h⟩ := pd_bind h
        refine ev_callv pp_Mo_shuts rfl rfl rfl rfl (s_Mo_truth hq43) ?_
        refine ev_gos pp_Mo_shuts 0 (S' := (57, [some (.ref 198), some (.int l1), some (.int (v 216 (((v 198 35) - (1 : Int32)).toNatClampNeg))), some (.int q39), none], [.int q43.1, .ref 198], (223, kc, ks, pd_H g q43.2))) rfl ?_
        refine ev_put pp_Mo_shuts rfl (fun _ => rfl) rfl rfl rfl ?_
        refine ev_gos pp_Mo_shuts 2 (S' := (64, [some (.ref 198), some (.int l1), some (.int (v 216 (((v 198 35) - (1 : Int32)).toNatClampNeg))), some (.int q39), none], [.int q43.1], (223, kc, ks, pd_H g (pd_w q43.2 198 36 q43.1)))) rfl ?_
        refine ev_gos pp_Mo_shuts 1 (S' := (bif !(decide (q43.1 = 0)) then 77 else 67, [some (.ref 198), some (.int l1), some (.int (v 216 (((v 198 35) - (1 : Int32)).toNatClampNeg))), some (.int q39), none], [], (223, kc, ks, pd_H g (pd_w q43.2 198 36 q43.1)))) rfl ?_
        rcases pd_cases h with ⟨hb44, h⟩ | ⟨hb44, h⟩
        · rw [hb44]
          refine ev_gos pp_Mo_shuts 5 (S' := (86, [some (.ref 198), some (.int l1), some (.int (v 216 (((v 198 35) - (1 : Int32)).toNatClampNeg))), some (.int q39), none], [.int (123 : Int32), .int (123 : Int32), .int (v 216 (((v 198 35) - (1 : Int32)).toNatClampNeg)), .ref 200], (223, kc, ks, pd_H g (pd_w q43.2 198 36 q43.1)))) rfl ?_
          obtain ⟨q45, hq45, h⟩ := pd_bind h
          refine ev_call pp_Mo_shuts rfl rfl rfl (s_Mo_upTo (fun _ => rfl) hq45) ?_
          refine ev_gos pp_Mo_shuts 2 (S' := (91, [some (.ref 198), some (.int l1), some (.int (v 216 (((v 198 35) - (1 : Int32)).toNatClampNeg))), some (.int q39), none], [.int (q45 + (1 : Int32))], (223, kc, ks, pd_H g (pd_w q43.2 198 36 q43.1)))) rfl ?_
          cases h
          exact ev_fin pp_Mo_shuts rfl
        · rw [hb44]
          refine ev_gos pp_Mo_shuts 4 (S' := (71, [some (.ref 198), some (.int l1), some (.int (v 216 (((v 198 35) - (1 : Int32)).toNatClampNeg))), some (.int q39), none], [.int (l1 + (1 : Int32)), .ref 198], (223, kc, ks, pd_H g (pd_w q43.2 198 36 q43.1)))) rfl ?_
          obtain ⟨q46, hq46, h⟩ := pd_bind h
          refine ev_callv pp_Mo_shuts rfl rfl rfl rfl (s_Mo_goOut hq46) ?_
          refine ev_gos pp_Mo_shuts 1 (S' := (91, [some (.ref 198), some (.int l1), some (.int (v 216 (((v 198 35) - (1 : Int32)).toNatClampNeg))), some (.int q39), none], [.int q46.1], (223, kc, ks, pd_H g q46.2))) rfl ?_
          cases h
          exact ev_fin pp_Mo_shuts rfl
      · rw [hb42]
        refine ev_gos pp_Mo_shuts 1 (S' := (46, [some (.ref 198), some (.int l1), some (.int (v 216 (((v 198 35) - (1 : Int32)).toNatClampNeg))), some (.int q39), none], [.int (-1 : Int32)], (223, kc, ks, pd_H g q41.2))) rfl ?_
        cases h
        exact ev_fin pp_Mo_shuts rfl
    · rw [hb40]
      refine ev_gos pp_Mo_shuts 4 (S' := (33, [some (.ref 198), some (.int l1), some (.int (v 216 (((v 198 35) - (1 : Int32)).toNatClampNeg))), some (.int q39), none], [.int (l1 + (1 : Int32)), .ref 198], (223, kc, ks, pd_H g v))) rfl ?_
      obtain ⟨q47, hq47, h⟩ := pd_bind h
      refine ev_callv pp_Mo_shuts rfl rfl rfl rfl (s_Mo_goOut hq47) ?_
      refine ev_gos pp_Mo_shuts 0 (S' := (36, [some (.ref 198), some (.int l1), some (.int (v 216 (((v 198 35) - (1 : Int32)).toNatClampNeg))), some (.int q39), none], [.int q47.1], (223, kc, ks, pd_H g q47.2))) rfl ?_
      cases h
      exact ev_fin pp_Mo_shuts rfl
theorem pp_Mo_behindAll {xs : Nat → Int32} {L : Nat} : (pj_P xs L 135).1 = fun S => pm_look tb_Mo_behindAll S.1 S := rfl
def d_Mo_behindAll (w : Nat) (l1 : Int32) (v : pd_V) : Option Int32 :=
  (d_Mo_upTo w 200 160 l1 (123 : Int32) (123 : Int32) v).bind fun q1 =>
  (d_Mo_behind w 200 160 q1 v).bind fun q2 =>
  bif pm_in l1 160 then
  bif !(decide ((v 200 l1.toNatClampNeg) = (63 : Int32))) then
    some q2
  else
    bif decide ((v 198 4) ≤ q2) then
      some q2
    else
      bif pm_in q2 160 then
      bif !(decide ((v 200 q2.toNatClampNeg) = (123 : Int32))) then
        some q2
      else
        (d_Mo_behind w 200 160 q2 v).bind fun q8 =>
        some q8
      else none
  else none
theorem s_Mo_behindAll {w : Nat} {l1 : Int32} {v : pd_V} {q : Int32}  (h : d_Mo_behindAll w l1 v = some q) : pm_ev (pj_P xs L) (d + 1) 135 (0, [some (.ref 198), some (.int l1), none], [], (223, kc, ks, pd_H g v)) (.inl (some (.int q)), (223, kc, ks, pd_H g v)) := by
  unfold d_Mo_behindAll at h
  refine ev_gos pp_Mo_behindAll 7 (S' := (13, [some (.ref 198), some (.int l1), none], [.int (123 : Int32), .int (123 : Int32), .int l1, .ref 200, .ref 200], (223, kc, ks, pd_H g v))) rfl ?_
  obtain ⟨q1, hq1, h⟩ := pd_bind h
  refine ev_call pp_Mo_behindAll rfl rfl rfl (s_Mo_upTo (fun _ => rfl) hq1) ?_
  refine ev_gos pp_Mo_behindAll 0 (S' := (16, [some (.ref 198), some (.int l1), none], [.int q1, .ref 200], (223, kc, ks, pd_H g v))) rfl ?_
  obtain ⟨q2, hq2, h⟩ := pd_bind h
  refine ev_call pp_Mo_behindAll rfl rfl rfl (s_Mo_behind (fun _ => rfl) hq2) ?_
  refine ev_gos pp_Mo_behindAll 4 (S' := (25, [some (.ref 198), some (.int l1), some (.int q2)], [.int l1, .ref 200], (223, kc, ks, pd_H g v))) rfl ?_
  obtain ⟨hc3, h⟩ := pd_chk h
  refine ev_iald pp_Mo_behindAll rfl (fun _ => rfl) hc3 ?_
  refine ev_gos pp_Mo_behindAll 1 (S' := (28, [some (.ref 198), some (.int l1), some (.int q2)], [.int (63 : Int32), .int (v 200 l1.toNatClampNeg)], (223, kc, ks, pd_H g v))) rfl ?_
  refine ev_gos pp_Mo_behindAll 1 (S' := (bif !(decide ((v 200 l1.toNatClampNeg) = (63 : Int32))) then 61 else 31, [some (.ref 198), some (.int l1), some (.int q2)], [], (223, kc, ks, pd_H g v))) rfl ?_
  rcases pd_cases h with ⟨hb4, h⟩ | ⟨hb4, h⟩
  · rw [hb4]
    refine ev_gos pp_Mo_behindAll 1 (S' := (62, [some (.ref 198), some (.int l1), some (.int q2)], [.int q2], (223, kc, ks, pd_H g v))) rfl ?_
    cases h
    exact ev_fin pp_Mo_behindAll rfl
  · rw [hb4]
    refine ev_gos pp_Mo_behindAll 3 (S' := (36, [some (.ref 198), some (.int l1), some (.int q2)], [.int (v 198 4), .int q2], (223, kc, ks, pd_H g v))) rfl ?_
    refine ev_gos pp_Mo_behindAll 1 (S' := (bif decide ((v 198 4) ≤ q2) then 61 else 39, [some (.ref 198), some (.int l1), some (.int q2)], [], (223, kc, ks, pd_H g v))) rfl ?_
    rcases pd_cases h with ⟨hb5, h⟩ | ⟨hb5, h⟩
    · rw [hb5]
      refine ev_gos pp_Mo_behindAll 1 (S' := (62, [some (.ref 198), some (.int l1), some (.int q2)], [.int q2], (223, kc, ks, pd_H g v))) rfl ?_
      cases h
      exact ev_fin pp_Mo_behindAll rfl
    · rw [hb5]
      refine ev_gos pp_Mo_behindAll 3 (S' := (44, [some (.ref 198), some (.int l1), some (.int q2)], [.int q2, .ref 200], (223, kc, ks, pd_H g v))) rfl ?_
      obtain ⟨hc6, h⟩ := pd_chk h
      refine ev_iald pp_Mo_behindAll rfl (fun _ => rfl) hc6 ?_
      refine ev_gos pp_Mo_behindAll 1 (S' := (47, [some (.ref 198), some (.int l1), some (.int q2)], [.int (123 : Int32), .int (v 200 q2.toNatClampNeg)], (223, kc, ks, pd_H g v))) rfl ?_
      refine ev_gos pp_Mo_behindAll 1 (S' := (bif !(decide ((v 200 q2.toNatClampNeg) = (123 : Int32))) then 61 else 50, [some (.ref 198), some (.int l1), some (.int q2)], [], (223, kc, ks, pd_H g v))) rfl ?_
      rcases pd_cases h with ⟨hb7, h⟩ | ⟨hb7, h⟩
      · rw [hb7]
        refine ev_gos pp_Mo_behindAll 1 (S' := (62, [some (.ref 198), some (.int l1), some (.int q2)], [.int q2], (223, kc, ks, pd_H g v))) rfl ?_
        cases h
        exact ev_fin pp_Mo_behindAll rfl
      · rw [hb7]
        refine ev_gos pp_Mo_behindAll 3 (S' := (55, [some (.ref 198), some (.int l1), some (.int q2)], [.int q2, .ref 200], (223, kc, ks, pd_H g v))) rfl ?_
        obtain ⟨q8, hq8, h⟩ := pd_bind h
        refine ev_call pp_Mo_behindAll rfl rfl rfl (s_Mo_behind (fun _ => rfl) hq8) ?_
        refine ev_gos pp_Mo_behindAll 1 (S' := (62, [some (.ref 198), some (.int l1), some (.int q2)], [.int q8], (223, kc, ks, pd_H g v))) rfl ?_
        cases h
        exact ev_fin pp_Mo_behindAll rfl
theorem pp_Mo_goInto {xs : Nat → Int32} {L : Nat} : (pj_P xs L 137).1 = fun S => pm_look tb_Mo_goInto S.1 S := rfl
def d_Mo_goInto (l1 : Int32) (l2 : Int32) (l3 : Int32) (l4 : Int32) (l5 : Int32) (v : pd_V) : Option (Int32 × pd_V) :=
  bif pm_in (v 198 35) 5 then
  bif pm_in (v 198 35) 5 then
  bif pm_in (v 198 35) 5 then
  some ((l5 + (1 : Int32)), (pd_w (pd_w (pd_w (pd_w (pd_w v 216 ((v 198 35).toNatClampNeg) l1) 217 ((v 198 35).toNatClampNeg) l2) 218 ((v 198 35).toNatClampNeg) l3) 198 35 ((v 198 35) + (1 : Int32))) 198 36 l4))
  else none
  else none
  else none
theorem s_Mo_goInto {l1 : Int32} {l2 : Int32} {l3 : Int32} {l4 : Int32} {l5 : Int32} {v : pd_V} {q : (Int32 × pd_V)}  (h : d_Mo_goInto l1 l2 l3 l4 l5 v = some q) : pm_ev (pj_P xs L) d 137 (0, [some (.ref 198), some (.int l1), some (.int l2), some (.int l3), some (.int l4), some (.int l5)], [], (223, kc, ks, pd_H g v)) (.inl (some (.int q.1)), (223, kc, ks, pd_H g q.2)) := by
  unfold d_Mo_goInto at h
  refine ev_gos pp_Mo_goInto 5 (S' := (9, [some (.ref 198), some (.int l1), some (.int l2), some (.int l3), some (.int l4), some (.int l5)], [.int l1, .int (v 198 35), .ref 216], (223, kc, ks, pd_H g v))) rfl ?_
  obtain ⟨hc1, h⟩ := pd_chk h
  refine ev_iast pp_Mo_goInto rfl (fun _ => rfl) hc1 ?_
  refine ev_gos pp_Mo_goInto 5 (S' := (19, [some (.ref 198), some (.int l1), some (.int l2), some (.int l3), some (.int l4), some (.int l5)], [.int l2, .int (v 198 35), .ref 217], (223, kc, ks, pd_H g (pd_w v 216 ((v 198 35).toNatClampNeg) l1)))) rfl ?_
  obtain ⟨hc2, h⟩ := pd_chk h
  refine ev_iast pp_Mo_goInto rfl (fun _ => rfl) hc2 ?_
  refine ev_gos pp_Mo_goInto 5 (S' := (29, [some (.ref 198), some (.int l1), some (.int l2), some (.int l3), some (.int l4), some (.int l5)], [.int l3, .int (v 198 35), .ref 218], (223, kc, ks, pd_H g (pd_w (pd_w v 216 ((v 198 35).toNatClampNeg) l1) 217 ((v 198 35).toNatClampNeg) l2)))) rfl ?_
  obtain ⟨hc3, h⟩ := pd_chk h
  refine ev_iast pp_Mo_goInto rfl (fun _ => rfl) hc3 ?_
  refine ev_gos pp_Mo_goInto 5 (S' := (37, [some (.ref 198), some (.int l1), some (.int l2), some (.int l3), some (.int l4), some (.int l5)], [.int ((v 198 35) + (1 : Int32)), .ref 198], (223, kc, ks, pd_H g (pd_w (pd_w (pd_w v 216 ((v 198 35).toNatClampNeg) l1) 217 ((v 198 35).toNatClampNeg) l2) 218 ((v 198 35).toNatClampNeg) l3)))) rfl ?_
  refine ev_put pp_Mo_goInto rfl (fun _ => rfl) rfl rfl rfl ?_
  refine ev_gos pp_Mo_goInto 2 (S' := (43, [some (.ref 198), some (.int l1), some (.int l2), some (.int l3), some (.int l4), some (.int l5)], [.int l4, .ref 198], (223, kc, ks, pd_H g (pd_w (pd_w (pd_w (pd_w v 216 ((v 198 35).toNatClampNeg) l1) 217 ((v 198 35).toNatClampNeg) l2) 218 ((v 198 35).toNatClampNeg) l3) 198 35 ((v 198 35) + (1 : Int32)))))) rfl ?_
  refine ev_put pp_Mo_goInto rfl (fun _ => rfl) rfl rfl rfl ?_
  refine ev_gos pp_Mo_goInto 3 (S' := (50, [some (.ref 198), some (.int l1), some (.int l2), some (.int l3), some (.int l4), some (.int l5)], [.int (l5 + (1 : Int32))], (223, kc, ks, pd_H g (pd_w (pd_w (pd_w (pd_w (pd_w v 216 ((v 198 35).toNatClampNeg) l1) 217 ((v 198 35).toNatClampNeg) l2) 218 ((v 198 35).toNatClampNeg) l3) 198 35 ((v 198 35) + (1 : Int32))) 198 36 l4)))) rfl ?_
  cases h
  exact ev_fin pp_Mo_goInto rfl
theorem pp_Mo_parts {xs : Nat → Int32} {L : Nat} : (pj_P xs L 136).1 = fun S => pm_look tb_Mo_parts S.1 S := rfl
def d_Mo_parts (w : Nat) (l1 : Int32) (l2 : Int32) (v : pd_V) : Option (Int32 × pd_V) :=
  (d_Mo_upTo w 200 160 l1 (123 : Int32) (123 : Int32) v).bind fun q1 =>
  (d_Mo_truth w l2 (l1 + (1 : Int32)) l1 v).bind fun q2 =>
  bif pm_in l1 160 then
  bif !(decide ((q2.2 200 l1.toNatClampNeg) = (42 : Int32))) then
    (d_Mo_going w l2 q2.2).bind fun q5 =>
    bif decide (q2.1 = 0) then
      (d_Mo_behind w 200 160 q1 q2.2).bind fun q7 =>
      bif decide ((q5 &&& (q2.1 ^^^ (-1 : Int32))) = 0) then
        (d_Mo_behindAll w l1 q2.2).bind fun q9 =>
        some (q9, q2.2)
      else
        (d_Mo_behindAll w l1 q2.2).bind fun q10 =>
        bif decide (q10 ≤ q7) then
          (d_Mo_behindAll w l1 q2.2).bind fun q12 =>
          some (q12, q2.2)
        else
          (d_Mo_goInto (-2 : Int32) l2 (0 : Int32) (q5 &&& (q2.1 ^^^ (-1 : Int32))) q7 q2.2).bind fun q13 =>
          some (q13.1, q13.2)
    else
      (d_Mo_goInto (-1 : Int32) l2 (q5 &&& (q2.1 ^^^ (-1 : Int32))) q2.1 q1 q2.2).bind fun q14 =>
      some (q14.1, q14.2)
  else
    bif !(decide (q2.1 = 0)) then
      (d_Mo_goInto l1 l2 (0 : Int32) q2.1 q1 q2.2).bind fun q16 =>
      some (q16.1, q16.2)
    else
      (d_Mo_behindAll w l1 q2.2).bind fun q17 =>
      some (q17, q2.2)
  else none
theorem s_Mo_parts {w : Nat} {l1 : Int32} {l2 : Int32} {v : pd_V} {q : (Int32 × pd_V)}  (h : d_Mo_parts w l1 l2 v = some q) : pm_ev (pj_P xs L) (d + 5) 136 (0, [some (.ref 198), some (.int l1), some (.int l2), none, none, none, none], [], (223, kc, ks, pd_H g v)) (.inl (some (.int q.1)), (223, kc, ks, pd_H g q.2)) := by
  unfold d_Mo_parts at h
  refine ev_gos pp_Mo_parts 5 (S' := (9, [some (.ref 198), some (.int l1), some (.int l2), none, none, none, none], [.int (123 : Int32), .int (123 : Int32), .int l1, .ref 200], (223, kc, ks, pd_H g v))) rfl ?_
  obtain ⟨q1, hq1, h⟩ := pd_bind h
  refine ev_call pp_Mo_parts rfl rfl rfl (s_Mo_upTo (fun _ => rfl) hq1) ?_
  refine ev_gos pp_Mo_parts 7 (S' := (19, [some (.ref 198), some (.int l1), some (.int l2), some (.int q1), none, none, none], [.int l1, .int (l1 + (1 : Int32)), .int l2, .ref 198], (223, kc, ks, pd_H g v))) rfl ?_
  obtain ⟨q2, hq2, h⟩ := pd_bind h
  refine ev_callv pp_Mo_parts rfl rfl rfl rfl (s_Mo_truth hq2) ?_
  refine ev_gos pp_Mo_parts 4 (S' := (29, [some (.ref 198), some (.int l1), some (.int l2), some (.int q1), some (.int q2.1), none, none], [.int l1, .ref 200], (223, kc, ks, pd_H g q2.2))) rfl ?_
  obtain ⟨hc3, h⟩ := pd_chk h
  refine ev_iald pp_Mo_parts rfl (fun _ => rfl) hc3 ?_
  refine ev_gos pp_Mo_parts 1 (S' := (32, [some (.ref 198), some (.int l1), some (.int l2), some (.int q1), some (.int q2.1), none, none], [.int (42 : Int32), .int (q2.2 200 l1.toNatClampNeg)], (223, kc, ks, pd_H g q2.2))) rfl ?_
  refine ev_gos pp_Mo_parts 1 (S' := (bif !(decide ((q2.2 200 l1.toNatClampNeg) = (42 : Int32))) then 59 else 35, [some (.ref 198), some (.int l1), some (.int l2), some (.int q1), some (.int q2.1), none, none], [], (223, kc, ks, pd_H g q2.2))) rfl ?_
  rcases pd_cases h with ⟨hb4, h⟩ | ⟨hb4, h⟩
  · rw [hb4]
    refine ev_gos pp_Mo_parts 2 (S' := (61, [some (.ref 198), some (.int l1), some (.int l2), some (.int q1), some (.int q2.1), none, none], [.int l2, .ref 198], (223, kc, ks, pd_H g q2.2))) rfl ?_
    obtain ⟨q5, hq5, h⟩ := pd_bind h
    refine ev_callv pp_Mo_parts rfl rfl rfl rfl (s_Mo_going hq5) ?_
    refine ev_gos pp_Mo_parts 6 (S' := (73, [some (.ref 198), some (.int l1), some (.int l2), some (.int q1), some (.int q2.1), some (.int (q5 &&& (q2.1 ^^^ (-1 : Int32)))), none], [.int q2.1], (223, kc, ks, pd_H g q2.2))) rfl ?_
    refine ev_gos pp_Mo_parts 1 (S' := (bif decide (q2.1 = 0) then 88 else 76, [some (.ref 198), some (.int l1), some (.int l2), some (.int q1), some (.int q2.1), some (.int (q5 &&& (q2.1 ^^^ (-1 : Int32)))), none], [], (223, kc, ks, pd_H g q2.2))) rfl ?_
    rcases pd_cases h with ⟨hb6, h⟩ | ⟨hb6, h⟩
    · rw [hb6]
      refine ev_gos pp_Mo_parts 3 (S' := (93, [some (.ref 198), some (.int l1), some (.int l2), some (.int q1), some (.int q2.1), some (.int (q5 &&& (q2.1 ^^^ (-1 : Int32)))), none], [.int q1, .ref 200], (223, kc, ks, pd_H g q2.2))) rfl ?_
      obtain ⟨q7, hq7, h⟩ := pd_bind h
      refine ev_call pp_Mo_parts rfl rfl rfl (s_Mo_behind (fun _ => rfl) hq7) ?_
      refine ev_gos pp_Mo_parts 2 (S' := (100, [some (.ref 198), some (.int l1), some (.int l2), some (.int q1), some (.int q2.1), some (.int (q5 &&& (q2.1 ^^^ (-1 : Int32)))), some (.int q7)], [.int (q5 &&& (q2.1 ^^^ (-1 : Int32)))], (223, kc, ks, pd_H g q2.2))) rfl ?_
      refine ev_gos pp_Mo_parts 1 (S' := (bif decide ((q5 &&& (q2.1 ^^^ (-1 : Int32))) = 0) then 128 else 103, [some (.ref 198), some (.int l1), some (.int l2), some (.int q1), some (.int q2.1), some (.int (q5 &&& (q2.1 ^^^ (-1 : Int32)))), some (.int q7)], [], (223, kc, ks, pd_H g q2.2))) rfl ?_
      rcases pd_cases h with ⟨hb8, h⟩ | ⟨hb8, h⟩
      · rw [hb8]
        refine ev_gos pp_Mo_parts 2 (S' := (130, [some (.ref 198), some (.int l1), some (.int l2), some (.int q1), some (.int q2.1), some (.int (q5 &&& (q2.1 ^^^ (-1 : Int32)))), some (.int q7)], [.int l1, .ref 198], (223, kc, ks, pd_H g q2.2))) rfl ?_
        obtain ⟨q9, hq9, h⟩ := pd_bind h
        refine ev_callv pp_Mo_parts rfl rfl rfl rfl (s_Mo_behindAll hq9) ?_
        refine ev_gos pp_Mo_parts 0 (S' := (133, [some (.ref 198), some (.int l1), some (.int l2), some (.int q1), some (.int q2.1), some (.int (q5 &&& (q2.1 ^^^ (-1 : Int32)))), some (.int q7)], [.int q9], (223, kc, ks, pd_H g q2.2))) rfl ?_
        cases h
        exact ev_fin pp_Mo_parts rfl
      · rw [hb8]
        refine ev_gos pp_Mo_parts 2 (S' := (105, [some (.ref 198), some (.int l1), some (.int l2), some (.int q1), some (.int q2.1), some (.int (q5 &&& (q2.1 ^^^ (-1 : Int32)))), some (.int q7)], [.int l1, .ref 198], (223, kc, ks, pd_H g q2.2))) rfl ?_
        obtain ⟨q10, hq10, h⟩ := pd_bind h
        refine ev_callv pp_Mo_parts rfl rfl rfl rfl (s_Mo_behindAll hq10) ?_
        refine ev_gos pp_Mo_parts 1 (S' := (110, [some (.ref 198), some (.int l1), some (.int l2), some (.int q1), some (.int q2.1), some (.int (q5 &&& (q2.1 ^^^ (-1 : Int32)))), some (.int q7)], [.int q7, .int q10], (223, kc, ks, pd_H g q2.2))) rfl ?_
        refine ev_gos pp_Mo_parts 1 (S' := (bif decide (q10 ≤ q7) then 128 else 113, [some (.ref 198), some (.int l1), some (.int l2), some (.int q1), some (.int q2.1), some (.int (q5 &&& (q2.1 ^^^ (-1 : Int32)))), some (.int q7)], [], (223, kc, ks, pd_H g q2.2))) rfl ?_
        rcases pd_cases h with ⟨hb11, h⟩ | ⟨hb11, h⟩
        · rw [hb11]
          refine ev_gos pp_Mo_parts 2 (S' := (130, [some (.ref 198), some (.int l1), some (.int l2), some (.int q1), some (.int q2.1), some (.int (q5 &&& (q2.1 ^^^ (-1 : Int32)))), some (.int q7)], [.int l1, .ref 198], (223, kc, ks, pd_H g q2.2))) rfl ?_
          obtain ⟨q12, hq12, h⟩ := pd_bind h
          refine ev_callv pp_Mo_parts rfl rfl rfl rfl (s_Mo_behindAll hq12) ?_
          refine ev_gos pp_Mo_parts 0 (S' := (133, [some (.ref 198), some (.int l1), some (.int l2), some (.int q1), some (.int q2.1), some (.int (q5 &&& (q2.1 ^^^ (-1 : Int32)))), some (.int q7)], [.int q12], (223, kc, ks, pd_H g q2.2))) rfl ?_
          cases h
          exact ev_fin pp_Mo_parts rfl
        · rw [hb11]
          refine ev_gos pp_Mo_parts 6 (S' := (122, [some (.ref 198), some (.int l1), some (.int l2), some (.int q1), some (.int q2.1), some (.int (q5 &&& (q2.1 ^^^ (-1 : Int32)))), some (.int q7)], [.int q7, .int (q5 &&& (q2.1 ^^^ (-1 : Int32))), .int (0 : Int32), .int l2, .int (-2 : Int32), .ref 198], (223, kc, ks, pd_H g q2.2))) rfl ?_
          obtain ⟨q13, hq13, h⟩ := pd_bind h
          refine ev_callv pp_Mo_parts rfl rfl rfl rfl (s_Mo_goInto hq13) ?_
          refine ev_gos pp_Mo_parts 1 (S' := (133, [some (.ref 198), some (.int l1), some (.int l2), some (.int q1), some (.int q2.1), some (.int (q5 &&& (q2.1 ^^^ (-1 : Int32)))), some (.int q7)], [.int q13.1], (223, kc, ks, pd_H g q13.2))) rfl ?_
          cases h
          exact ev_fin pp_Mo_parts rfl
    · rw [hb6]
      refine ev_gos pp_Mo_parts 6 (S' := (84, [some (.ref 198), some (.int l1), some (.int l2), some (.int q1), some (.int q2.1), some (.int (q5 &&& (q2.1 ^^^ (-1 : Int32)))), none], [.int q1, .int q2.1, .int (q5 &&& (q2.1 ^^^ (-1 : Int32))), .int l2, .int (-1 : Int32), .ref 198], (223, kc, ks, pd_H g q2.2))) rfl ?_
      obtain ⟨q14, hq14, h⟩ := pd_bind h
      refine ev_callv pp_Mo_parts rfl rfl rfl rfl (s_Mo_goInto hq14) ?_
      refine ev_gos pp_Mo_parts 0 (S' := (87, [some (.ref 198), some (.int l1), some (.int l2), some (.int q1), some (.int q2.1), some (.int (q5 &&& (q2.1 ^^^ (-1 : Int32)))), none], [.int q14.1], (223, kc, ks, pd_H g q14.2))) rfl ?_
      cases h
      exact ev_fin pp_Mo_parts rfl
  · rw [hb4]
    refine ev_gos pp_Mo_parts 1 (S' := (37, [some (.ref 198), some (.int l1), some (.int l2), some (.int q1), some (.int q2.1), none, none], [.int q2.1], (223, kc, ks, pd_H g q2.2))) rfl ?_
    refine ev_gos pp_Mo_parts 1 (S' := (bif !(decide (q2.1 = 0)) then 48 else 40, [some (.ref 198), some (.int l1), some (.int l2), some (.int q1), some (.int q2.1), none, none], [], (223, kc, ks, pd_H g q2.2))) rfl ?_
    rcases pd_cases h with ⟨hb15, h⟩ | ⟨hb15, h⟩
    · rw [hb15]
      refine ev_gos pp_Mo_parts 6 (S' := (55, [some (.ref 198), some (.int l1), some (.int l2), some (.int q1), some (.int q2.1), none, none], [.int q1, .int q2.1, .int (0 : Int32), .int l2, .int l1, .ref 198], (223, kc, ks, pd_H g q2.2))) rfl ?_
      obtain ⟨q16, hq16, h⟩ := pd_bind h
      refine ev_callv pp_Mo_parts rfl rfl rfl rfl (s_Mo_goInto hq16) ?_
      refine ev_gos pp_Mo_parts 0 (S' := (58, [some (.ref 198), some (.int l1), some (.int l2), some (.int q1), some (.int q2.1), none, none], [.int q16.1], (223, kc, ks, pd_H g q16.2))) rfl ?_
      cases h
      exact ev_fin pp_Mo_parts rfl
    · rw [hb15]
      refine ev_gos pp_Mo_parts 2 (S' := (42, [some (.ref 198), some (.int l1), some (.int l2), some (.int q1), some (.int q2.1), none, none], [.int l1, .ref 198], (223, kc, ks, pd_H g q2.2))) rfl ?_
      obtain ⟨q17, hq17, h⟩ := pd_bind h
      refine ev_callv pp_Mo_parts rfl rfl rfl rfl (s_Mo_behindAll hq17) ?_
      refine ev_gos pp_Mo_parts 1 (S' := (58, [some (.ref 198), some (.int l1), some (.int l2), some (.int q1), some (.int q2.1), none, none], [.int q17], (223, kc, ks, pd_H g q2.2))) rfl ?_
      cases h
      exact ev_fin pp_Mo_parts rfl
theorem pp_Mo_act {xs : Nat → Int32} {L : Nat} : (pj_P xs L 139).1 = fun S => pm_look tb_Mo_act S.1 S := rfl
def d_Mo_act (w : Nat) (l1 : Int32) (l2 : Int32) (v : pd_V) : Option pd_V :=
  bif pm_in l2 160 then
  bif !(decide ((v 200 l2.toNatClampNeg) = (82 : Int32))) then
    bif !(decide ((v 200 l2.toNatClampNeg) = (79 : Int32))) then
      bif !(decide ((v 200 l2.toNatClampNeg) = (76 : Int32))) then
        (d_Mo_valueOf w l1 (l2 + (2 : Int32)) l2 v).bind fun q5 =>
        bif pm_in l1 16 then
        bif !(decide ((q5.2 209 l1.toNatClampNeg) = 0)) then
          some q5.2
        else
          bif pm_in ((((8 : Int32) * l1) + (v 200 l2.toNatClampNeg)) - (97 : Int32)) 128 then
          some (pd_w q5.2 204 (((((8 : Int32) * l1) + (v 200 l2.toNatClampNeg)) - (97 : Int32)).toNatClampNeg) q5.1)
          else none
        else none
      else
        (d_Mo_valueOf w l1 (l2 + (2 : Int32)) l2 v).bind fun q9 =>
        bif pm_in l1 16 then
        bif decide ((q9.2 209 l1.toNatClampNeg) = 0) then
          (d_Mo_valueOf w l1 ((q9.2 198 6) + (2 : Int32)) l2 q9.2).bind fun q12 =>
          bif pm_in l1 16 then
          bif decide ((q12.2 209 l1.toNatClampNeg) = 0) then
            bif decide ((d_Mo_beyond q9.1 (0 : Int32) (7 : Int32)) = 0) then
              bif pm_in (((8 : Int32) * l1) + q9.1) 128 then
              some (pd_w q12.2 205 ((((8 : Int32) * l1) + q9.1).toNatClampNeg) q12.1)
              else none
            else
              bif pm_in l1 16 then
              bif pm_in l1 16 then
              some (pd_w (pd_w q12.2 208 l1.toNatClampNeg (l2 + (1 : Int32))) 209 l1.toNatClampNeg (1 : Int32))
              else none
              else none
          else
            some q12.2
          else none
        else
          bif pm_in l1 16 then
          bif decide ((q9.2 209 l1.toNatClampNeg) = 0) then
            bif decide ((d_Mo_beyond q9.1 (0 : Int32) (7 : Int32)) = 0) then
              bif pm_in (((8 : Int32) * l1) + q9.1) 128 then
              some (pd_w q9.2 205 ((((8 : Int32) * l1) + q9.1).toNatClampNeg) (0 : Int32))
              else none
            else
              bif pm_in l1 16 then
              bif pm_in l1 16 then
              some (pd_w (pd_w q9.2 208 l1.toNatClampNeg (l2 + (1 : Int32))) 209 l1.toNatClampNeg (1 : Int32))
              else none
              else none
          else
            some q9.2
          else none
        else none
    else
      (d_Mo_valueOf w l1 (l2 + (1 : Int32)) l2 v).bind fun q27 =>
      bif pm_in l1 16 then
      bif decide ((q27.2 209 l1.toNatClampNeg) = 0) then
        bif pm_in l1 16 then
        bif decide ((20 : Int32) ≤ (q27.2 207 l1.toNatClampNeg)) then
          bif pm_in l1 16 then
          bif pm_in l1 16 then
          some (pd_w q27.2 207 l1.toNatClampNeg ((q27.2 207 l1.toNatClampNeg) + (1 : Int32)))
          else none
          else none
        else
          bif pm_in l1 16 then
          bif pm_in (((20 : Int32) * l1) + (q27.2 207 l1.toNatClampNeg)) 320 then
          bif pm_in l1 16 then
          bif pm_in l1 16 then
          some (pd_w (pd_w q27.2 206 ((((20 : Int32) * l1) + (q27.2 207 l1.toNatClampNeg)).toNatClampNeg) q27.1) 207 l1.toNatClampNeg ((q27.2 207 l1.toNatClampNeg) + (1 : Int32)))
          else none
          else none
          else none
          else none
        else none
      else
        some q27.2
      else none
  else
    bif pm_in l1 16 then
    some (pd_w v 209 l1.toNatClampNeg (1 : Int32))
    else none
  else none
set_option maxRecDepth 100000 in
set_option maxHeartbeats 4000000 in
theorem s_Mo_act {w : Nat} {l1 : Int32} {l2 : Int32} {v : pd_V} {q : pd_V}  (h : d_Mo_act w l1 l2 v = some q) : pm_ev (pj_P xs L) (d + 4) 139 (0, [some (.ref 198), some (.int l1), some (.int l2), none, none, none, none], [], (223, kc, ks, pd_H g v)) (.inl none, (223, kc, ks, pd_H g q)) := by
  unfold d_Mo_act at h
  refine ev_gos pp_Mo_act 3 (S' := (5, [some (.ref 198), some (.int l1), some (.int l2), none, none, none, none], [.int l2, .ref 200], (223, kc, ks, pd_H g v))) rfl ?_
  obtain ⟨hc1, h⟩ := pd_chk h
  refine ev_iald pp_Mo_act rfl (fun _ => rfl) hc1 ?_
  refine ev_gos pp_Mo_act 3 (S' := (10, [some (.ref 198), some (.int l1), some (.int l2), some (.int (v 200 l2.toNatClampNeg)), none, none, none], [.int (82 : Int32), .int (v 200 l2.toNatClampNeg)], (223, kc, ks, pd_H g v))) rfl ?_
  refine ev_gos pp_Mo_act 1 (S' := (bif !(decide ((v 200 l2.toNatClampNeg) = (82 : Int32))) then 23 else 13, [some (.ref 198), some (.int l1), some (.int l2), some (.int (v 200 l2.toNatClampNeg)), none, none, none], [], (223, kc, ks, pd_H g v))) rfl ?_
  rcases pd_cases h with ⟨hb2, h⟩ | ⟨hb2, h⟩
  · rw [hb2]
    refine ev_gos pp_Mo_act 2 (S' := (26, [some (.ref 198), some (.int l1), some (.int l2), some (.int (v 200 l2.toNatClampNeg)), none, none, none], [.int (79 : Int32), .int (v 200 l2.toNatClampNeg)], (223, kc, ks, pd_H g v))) rfl ?_
    refine ev_gos pp_Mo_act 1 (S' := (bif !(decide ((v 200 l2.toNatClampNeg) = (79 : Int32))) then 92 else 29, [some (.ref 198), some (.int l1), some (.int l2), some (.int (v 200 l2.toNatClampNeg)), none, none, none], [], (223, kc, ks, pd_H g v))) rfl ?_
    rcases pd_cases h with ⟨hb3, h⟩ | ⟨hb3, h⟩
    · rw [hb3]
      refine ev_gos pp_Mo_act 2 (S' := (95, [some (.ref 198), some (.int l1), some (.int l2), some (.int (v 200 l2.toNatClampNeg)), none, none, none], [.int (76 : Int32), .int (v 200 l2.toNatClampNeg)], (223, kc, ks, pd_H g v))) rfl ?_
      refine ev_gos pp_Mo_act 1 (S' := (bif !(decide ((v 200 l2.toNatClampNeg) = (76 : Int32))) then 197 else 98, [some (.ref 198), some (.int l1), some (.int l2), some (.int (v 200 l2.toNatClampNeg)), none, none, none], [], (223, kc, ks, pd_H g v))) rfl ?_
      rcases pd_cases h with ⟨hb4, h⟩ | ⟨hb4, h⟩
      · rw [hb4]
        refine ev_gos pp_Mo_act 6 (S' := (203, [some (.ref 198), some (.int l1), some (.int l2), some (.int (v 200 l2.toNatClampNeg)), none, none, none], [.int l2, .int (l2 + (2 : Int32)), .int l1, .ref 198], (223, kc, ks, pd_H g v))) rfl ?_
        obtain ⟨q5, hq5, h⟩ := pd_bind h
        refine ev_callv pp_Mo_act rfl rfl rfl rfl (s_Mo_valueOf hq5) ?_
        refine ev_gos pp_Mo_act 4 (S' := (213, [some (.ref 198), some (.int l1), some (.int l2), some (.int (v 200 l2.toNatClampNeg)), some (.int q5.1), none, none], [.int l1, .ref 209], (223, kc, ks, pd_H g q5.2))) rfl ?_
        obtain ⟨hc6, h⟩ := pd_chk h
        refine ev_zald pp_Mo_act rfl (fun _ => rfl) hc6 ?_
        refine ev_gos pp_Mo_act 0 (S' := (214, [some (.ref 198), some (.int l1), some (.int l2), some (.int (v 200 l2.toNatClampNeg)), some (.int q5.1), none, none], [.int (q5.2 209 l1.toNatClampNeg)], (223, kc, ks, pd_H g q5.2))) rfl ?_
        refine ev_gos pp_Mo_act 1 (S' := (bif !(decide ((q5.2 209 l1.toNatClampNeg) = 0)) then 233 else 217, [some (.ref 198), some (.int l1), some (.int l2), some (.int (v 200 l2.toNatClampNeg)), some (.int q5.1), none, none], [], (223, kc, ks, pd_H g q5.2))) rfl ?_
        rcases pd_cases h with ⟨hb7, h⟩ | ⟨hb7, h⟩
        · rw [hb7]
          refine ev_gos pp_Mo_act 0 (S' := (233, [some (.ref 198), some (.int l1), some (.int l2), some (.int (v 200 l2.toNatClampNeg)), some (.int q5.1), none, none], [], (223, kc, ks, pd_H g q5.2))) rfl ?_
          cases h
          exact ev_fin pp_Mo_act rfl
        · rw [hb7]
          refine ev_gos pp_Mo_act 10 (S' := (232, [some (.ref 198), some (.int l1), some (.int l2), some (.int (v 200 l2.toNatClampNeg)), some (.int q5.1), none, none], [.int q5.1, .int ((((8 : Int32) * l1) + (v 200 l2.toNatClampNeg)) - (97 : Int32)), .ref 204], (223, kc, ks, pd_H g q5.2))) rfl ?_
          obtain ⟨hc8, h⟩ := pd_chk h
          refine ev_iast pp_Mo_act rfl (fun _ => rfl) hc8 ?_
          refine ev_gos pp_Mo_act 0 (S' := (233, [some (.ref 198), some (.int l1), some (.int l2), some (.int (v 200 l2.toNatClampNeg)), some (.int q5.1), none, none], [], (223, kc, ks, pd_H g (pd_w q5.2 204 (((((8 : Int32) * l1) + (v 200 l2.toNatClampNeg)) - (97 : Int32)).toNatClampNeg) q5.1)))) rfl ?_
          cases h
          exact ev_fin pp_Mo_act rfl
      · rw [hb4]
        refine ev_gos pp_Mo_act 6 (S' := (104, [some (.ref 198), some (.int l1), some (.int l2), some (.int (v 200 l2.toNatClampNeg)), none, none, none], [.int l2, .int (l2 + (2 : Int32)), .int l1, .ref 198], (223, kc, ks, pd_H g v))) rfl ?_
        obtain ⟨q9, hq9, h⟩ := pd_bind h
        refine ev_callv pp_Mo_act rfl rfl rfl rfl (s_Mo_valueOf hq9) ?_
        refine ev_gos pp_Mo_act 9 (S' := (122, [some (.ref 198), some (.int l1), some (.int l2), some (.int (v 200 l2.toNatClampNeg)), some (.int q9.1), some (.int ((q9.2 198 6) + (2 : Int32))), none], [.int l1, .ref 209], (223, kc, ks, pd_H g q9.2))) rfl ?_
        obtain ⟨hc10, h⟩ := pd_chk h
        refine ev_zald pp_Mo_act rfl (fun _ => rfl) hc10 ?_
        refine ev_gos pp_Mo_act 0 (S' := (123, [some (.ref 198), some (.int l1), some (.int l2), some (.int (v 200 l2.toNatClampNeg)), some (.int q9.1), some (.int ((q9.2 198 6) + (2 : Int32))), none], [.int (q9.2 209 l1.toNatClampNeg)], (223, kc, ks, pd_H g q9.2))) rfl ?_
        refine ev_gos pp_Mo_act 1 (S' := (bif decide ((q9.2 209 l1.toNatClampNeg) = 0) then 130 else 126, [some (.ref 198), some (.int l1), some (.int l2), some (.int (v 200 l2.toNatClampNeg)), some (.int q9.1), some (.int ((q9.2 198 6) + (2 : Int32))), none], [], (223, kc, ks, pd_H g q9.2))) rfl ?_
        rcases pd_cases h with ⟨hb11, h⟩ | ⟨hb11, h⟩
        · rw [hb11]
          refine ev_gos pp_Mo_act 4 (S' := (135, [some (.ref 198), some (.int l1), some (.int l2), some (.int (v 200 l2.toNatClampNeg)), some (.int q9.1), some (.int ((q9.2 198 6) + (2 : Int32))), none], [.int l2, .int ((q9.2 198 6) + (2 : Int32)), .int l1, .ref 198], (223, kc, ks, pd_H g q9.2))) rfl ?_
          obtain ⟨q12, hq12, h⟩ := pd_bind h
          refine ev_callv pp_Mo_act rfl rfl rfl rfl (s_Mo_valueOf hq12) ?_
          refine ev_gos pp_Mo_act 4 (S' := (145, [some (.ref 198), some (.int l1), some (.int l2), some (.int (v 200 l2.toNatClampNeg)), some (.int q9.1), some (.int ((q9.2 198 6) + (2 : Int32))), some (.int q12.1)], [.int l1, .ref 209], (223, kc, ks, pd_H g q12.2))) rfl ?_
          obtain ⟨hc13, h⟩ := pd_chk h
          refine ev_zald pp_Mo_act rfl (fun _ => rfl) hc13 ?_
          refine ev_gos pp_Mo_act 0 (S' := (146, [some (.ref 198), some (.int l1), some (.int l2), some (.int (v 200 l2.toNatClampNeg)), some (.int q9.1), some (.int ((q9.2 198 6) + (2 : Int32))), some (.int q12.1)], [.int (q12.2 209 l1.toNatClampNeg)], (223, kc, ks, pd_H g q12.2))) rfl ?_
          refine ev_gos pp_Mo_act 1 (S' := (bif decide ((q12.2 209 l1.toNatClampNeg) = 0) then 150 else 149, [some (.ref 198), some (.int l1), some (.int l2), some (.int (v 200 l2.toNatClampNeg)), some (.int q9.1), some (.int ((q9.2 198 6) + (2 : Int32))), some (.int q12.1)], [], (223, kc, ks, pd_H g q12.2))) rfl ?_
          rcases pd_cases h with ⟨hb14, h⟩ | ⟨hb14, h⟩
          · rw [hb14]
            refine ev_gos pp_Mo_act 3 (S' := (155, [some (.ref 198), some (.int l1), some (.int l2), some (.int (v 200 l2.toNatClampNeg)), some (.int q9.1), some (.int ((q9.2 198 6) + (2 : Int32))), some (.int q12.1)], [.int (7 : Int32), .int (0 : Int32), .int q9.1], (223, kc, ks, pd_H g q12.2))) rfl ?_
            refine ev_call pp_Mo_act rfl rfl rfl (s_Mo_beyond) ?_
            refine ev_gos pp_Mo_act 0 (S' := (158, [some (.ref 198), some (.int l1), some (.int l2), some (.int (v 200 l2.toNatClampNeg)), some (.int q9.1), some (.int ((q9.2 198 6) + (2 : Int32))), some (.int q12.1)], [.int (d_Mo_beyond q9.1 (0 : Int32) (7 : Int32))], (223, kc, ks, pd_H g q12.2))) rfl ?_
            refine ev_gos pp_Mo_act 1 (S' := (bif decide ((d_Mo_beyond q9.1 (0 : Int32) (7 : Int32)) = 0) then 180 else 161, [some (.ref 198), some (.int l1), some (.int l2), some (.int (v 200 l2.toNatClampNeg)), some (.int q9.1), some (.int ((q9.2 198 6) + (2 : Int32))), some (.int q12.1)], [], (223, kc, ks, pd_H g q12.2))) rfl ?_
            rcases pd_cases h with ⟨hb16, h⟩ | ⟨hb16, h⟩
            · rw [hb16]
              refine ev_gos pp_Mo_act 8 (S' := (193, [some (.ref 198), some (.int l1), some (.int l2), some (.int (v 200 l2.toNatClampNeg)), some (.int q9.1), some (.int ((q9.2 198 6) + (2 : Int32))), some (.int q12.1)], [.int q12.1, .int (((8 : Int32) * l1) + q9.1), .ref 205], (223, kc, ks, pd_H g q12.2))) rfl ?_
              obtain ⟨hc17, h⟩ := pd_chk h
              refine ev_iast pp_Mo_act rfl (fun _ => rfl) hc17 ?_
              refine ev_gos pp_Mo_act 1 (S' := (233, [some (.ref 198), some (.int l1), some (.int l2), some (.int (v 200 l2.toNatClampNeg)), some (.int q9.1), some (.int ((q9.2 198 6) + (2 : Int32))), some (.int q12.1)], [], (223, kc, ks, pd_H g (pd_w q12.2 205 ((((8 : Int32) * l1) + q9.1).toNatClampNeg) q12.1)))) rfl ?_
              cases h
              exact ev_fin pp_Mo_act rfl
            · rw [hb16]
              refine ev_gos pp_Mo_act 6 (S' := (169, [some (.ref 198), some (.int l1), some (.int l2), some (.int (v 200 l2.toNatClampNeg)), some (.int q9.1), some (.int ((q9.2 198 6) + (2 : Int32))), some (.int q12.1)], [.int (l2 + (1 : Int32)), .int l1, .ref 208], (223, kc, ks, pd_H g q12.2))) rfl ?_
              obtain ⟨hc18, h⟩ := pd_chk h
              refine ev_iast pp_Mo_act rfl (fun _ => rfl) hc18 ?_
              refine ev_gos pp_Mo_act 4 (S' := (176, [some (.ref 198), some (.int l1), some (.int l2), some (.int (v 200 l2.toNatClampNeg)), some (.int q9.1), some (.int ((q9.2 198 6) + (2 : Int32))), some (.int q12.1)], [.int (1 : Int32), .int l1, .ref 209], (223, kc, ks, pd_H g (pd_w q12.2 208 l1.toNatClampNeg (l2 + (1 : Int32)))))) rfl ?_
              obtain ⟨hc19, h⟩ := pd_chk h
              refine ev_zast pp_Mo_act rfl (fun _ => rfl) hc19 pd_b1 ?_
              refine ev_gos pp_Mo_act 2 (S' := (233, [some (.ref 198), some (.int l1), some (.int l2), some (.int (v 200 l2.toNatClampNeg)), some (.int q9.1), some (.int ((q9.2 198 6) + (2 : Int32))), some (.int q12.1)], [], (223, kc, ks, pd_H g (pd_w (pd_w q12.2 208 l1.toNatClampNeg (l2 + (1 : Int32))) 209 l1.toNatClampNeg (1 : Int32))))) rfl ?_
              cases h
              exact ev_fin pp_Mo_act rfl
          · rw [hb14]
            refine ev_gos pp_Mo_act 0 (S' := (149, [some (.ref 198), some (.int l1), some (.int l2), some (.int (v 200 l2.toNatClampNeg)), some (.int q9.1), some (.int ((q9.2 198 6) + (2 : Int32))), some (.int q12.1)], [], (223, kc, ks, pd_H g q12.2))) rfl ?_
            cases h
            exact ev_fin pp_Mo_act rfl
        · rw [hb11]
          refine ev_gos pp_Mo_act 6 (S' := (145, [some (.ref 198), some (.int l1), some (.int l2), some (.int (v 200 l2.toNatClampNeg)), some (.int q9.1), some (.int ((q9.2 198 6) + (2 : Int32))), some (.int (0 : Int32))], [.int l1, .ref 209], (223, kc, ks, pd_H g q9.2))) rfl ?_
          obtain ⟨hc20, h⟩ := pd_chk h
          refine ev_zald pp_Mo_act rfl (fun _ => rfl) hc20 ?_
          refine ev_gos pp_Mo_act 0 (S' := (146, [some (.ref 198), some (.int l1), some (.int l2), some (.int (v 200 l2.toNatClampNeg)), some (.int q9.1), some (.int ((q9.2 198 6) + (2 : Int32))), some (.int (0 : Int32))], [.int (q9.2 209 l1.toNatClampNeg)], (223, kc, ks, pd_H g q9.2))) rfl ?_
          refine ev_gos pp_Mo_act 1 (S' := (bif decide ((q9.2 209 l1.toNatClampNeg) = 0) then 150 else 149, [some (.ref 198), some (.int l1), some (.int l2), some (.int (v 200 l2.toNatClampNeg)), some (.int q9.1), some (.int ((q9.2 198 6) + (2 : Int32))), some (.int (0 : Int32))], [], (223, kc, ks, pd_H g q9.2))) rfl ?_
          rcases pd_cases h with ⟨hb21, h⟩ | ⟨hb21, h⟩
          · rw [hb21]
            refine ev_gos pp_Mo_act 3 (S' := (155, [some (.ref 198), some (.int l1), some (.int l2), some (.int (v 200 l2.toNatClampNeg)), some (.int q9.1), some (.int ((q9.2 198 6) + (2 : Int32))), some (.int (0 : Int32))], [.int (7 : Int32), .int (0 : Int32), .int q9.1], (223, kc, ks, pd_H g q9.2))) rfl ?_
            refine ev_call pp_Mo_act rfl rfl rfl (s_Mo_beyond) ?_
            refine ev_gos pp_Mo_act 0 (S' := (158, [some (.ref 198), some (.int l1), some (.int l2), some (.int (v 200 l2.toNatClampNeg)), some (.int q9.1), some (.int ((q9.2 198 6) + (2 : Int32))), some (.int (0 : Int32))], [.int (d_Mo_beyond q9.1 (0 : Int32) (7 : Int32))], (223, kc, ks, pd_H g q9.2))) rfl ?_
            refine ev_gos pp_Mo_act 1 (S' := (bif decide ((d_Mo_beyond q9.1 (0 : Int32) (7 : Int32)) = 0) then 180 else 161, [some (.ref 198), some (.int l1), some (.int l2), some (.int (v 200 l2.toNatClampNeg)), some (.int q9.1), some (.int ((q9.2 198 6) + (2 : Int32))), some (.int (0 : Int32))], [], (223, kc, ks, pd_H g q9.2))) rfl ?_
            rcases pd_cases h with ⟨hb23, h⟩ | ⟨hb23, h⟩
            · rw [hb23]
              refine ev_gos pp_Mo_act 8 (S' := (193, [some (.ref 198), some (.int l1), some (.int l2), some (.int (v 200 l2.toNatClampNeg)), some (.int q9.1), some (.int ((q9.2 198 6) + (2 : Int32))), some (.int (0 : Int32))], [.int (0 : Int32), .int (((8 : Int32) * l1) + q9.1), .ref 205], (223, kc, ks, pd_H g q9.2))) rfl ?_
              obtain ⟨hc24, h⟩ := pd_chk h
              refine ev_iast pp_Mo_act rfl (fun _ => rfl) hc24 ?_
              refine ev_gos pp_Mo_act 1 (S' := (233, [some (.ref 198), some (.int l1), some (.int l2), some (.int (v 200 l2.toNatClampNeg)), some (.int q9.1), some (.int ((q9.2 198 6) + (2 : Int32))), some (.int (0 : Int32))], [], (223, kc, ks, pd_H g (pd_w q9.2 205 ((((8 : Int32) * l1) + q9.1).toNatClampNeg) (0 : Int32))))) rfl ?_
              cases h
              exact ev_fin pp_Mo_act rfl
            · rw [hb23]
              refine ev_gos pp_Mo_act 6 (S' := (169, [some (.ref 198), some (.int l1), some (.int l2), some (.int (v 200 l2.toNatClampNeg)), some (.int q9.1), some (.int ((q9.2 198 6) + (2 : Int32))), some (.int (0 : Int32))], [.int (l2 + (1 : Int32)), .int l1, .ref 208], (223, kc, ks, pd_H g q9.2))) rfl ?_
              obtain ⟨hc25, h⟩ := pd_chk h
              refine ev_iast pp_Mo_act rfl (fun _ => rfl) hc25 ?_
              refine ev_gos pp_Mo_act 4 (S' := (176, [some (.ref 198), some (.int l1), some (.int l2), some (.int (v 200 l2.toNatClampNeg)), some (.int q9.1), some (.int ((q9.2 198 6) + (2 : Int32))), some (.int (0 : Int32))], [.int (1 : Int32), .int l1, .ref 209], (223, kc, ks, pd_H g (pd_w q9.2 208 l1.toNatClampNeg (l2 + (1 : Int32)))))) rfl ?_
              obtain ⟨hc26, h⟩ := pd_chk h
              refine ev_zast pp_Mo_act rfl (fun _ => rfl) hc26 pd_b1 ?_
              refine ev_gos pp_Mo_act 2 (S' := (233, [some (.ref 198), some (.int l1), some (.int l2), some (.int (v 200 l2.toNatClampNeg)), some (.int q9.1), some (.int ((q9.2 198 6) + (2 : Int32))), some (.int (0 : Int32))], [], (223, kc, ks, pd_H g (pd_w (pd_w q9.2 208 l1.toNatClampNeg (l2 + (1 : Int32))) 209 l1.toNatClampNeg (1 : Int32))))) rfl ?_
              cases h
              exact ev_fin pp_Mo_act rfl
          · rw [hb21]
            refine ev_gos pp_Mo_act 0 (S' := (149, [some (.ref 198), some (.int l1), some (.int l2), some (.int (v 200 l2.toNatClampNeg)), some (.int q9.1), some (.int ((q9.2 198 6) + (2 : Int32))), some (.int (0 : Int32))], [], (223, kc, ks, pd_H g q9.2))) rfl ?_
            cases h
            exact ev_fin pp_Mo_act rfl
    · rw [hb3]
      refine ev_gos pp_Mo_act 6 (S' := (35, [some (.ref 198), some (.int l1), some (.int l2), some (.int (v 200 l2.toNatClampNeg)), none, none, none], [.int l2, .int (l2 + (1 : Int32)), .int l1, .ref 198], (223, kc, ks, pd_H g v))) rfl ?_
      obtain ⟨q27, hq27, h⟩ := pd_bind h
      refine ev_callv pp_Mo_act rfl rfl rfl rfl (s_Mo_valueOf hq27) ?_
      refine ev_gos pp_Mo_act 4 (S' := (45, [some (.ref 198), some (.int l1), some (.int l2), some (.int (v 200 l2.toNatClampNeg)), some (.int q27.1), none, none], [.int l1, .ref 209], (223, kc, ks, pd_H g q27.2))) rfl ?_
      obtain ⟨hc28, h⟩ := pd_chk h
      refine ev_zald pp_Mo_act rfl (fun _ => rfl) hc28 ?_
      refine ev_gos pp_Mo_act 0 (S' := (46, [some (.ref 198), some (.int l1), some (.int l2), some (.int (v 200 l2.toNatClampNeg)), some (.int q27.1), none, none], [.int (q27.2 209 l1.toNatClampNeg)], (223, kc, ks, pd_H g q27.2))) rfl ?_
      refine ev_gos pp_Mo_act 1 (S' := (bif decide ((q27.2 209 l1.toNatClampNeg) = 0) then 50 else 49, [some (.ref 198), some (.int l1), some (.int l2), some (.int (v 200 l2.toNatClampNeg)), some (.int q27.1), none, none], [], (223, kc, ks, pd_H g q27.2))) rfl ?_
      rcases pd_cases h with ⟨hb29, h⟩ | ⟨hb29, h⟩
      · rw [hb29]
        refine ev_gos pp_Mo_act 3 (S' := (55, [some (.ref 198), some (.int l1), some (.int l2), some (.int (v 200 l2.toNatClampNeg)), some (.int q27.1), none, none], [.int l1, .ref 207], (223, kc, ks, pd_H g q27.2))) rfl ?_
        obtain ⟨hc30, h⟩ := pd_chk h
        refine ev_iald pp_Mo_act rfl (fun _ => rfl) hc30 ?_
        refine ev_gos pp_Mo_act 1 (S' := (58, [some (.ref 198), some (.int l1), some (.int l2), some (.int (v 200 l2.toNatClampNeg)), some (.int q27.1), none, none], [.int (20 : Int32), .int (q27.2 207 l1.toNatClampNeg)], (223, kc, ks, pd_H g q27.2))) rfl ?_
        refine ev_gos pp_Mo_act 1 (S' := (bif decide ((20 : Int32) ≤ (q27.2 207 l1.toNatClampNeg)) then 79 else 61, [some (.ref 198), some (.int l1), some (.int l2), some (.int (v 200 l2.toNatClampNeg)), some (.int q27.1), none, none], [], (223, kc, ks, pd_H g q27.2))) rfl ?_
        rcases pd_cases h with ⟨hb31, h⟩ | ⟨hb31, h⟩
        · rw [hb31]
          refine ev_gos pp_Mo_act 4 (S' := (85, [some (.ref 198), some (.int l1), some (.int l2), some (.int (v 200 l2.toNatClampNeg)), some (.int q27.1), none, none], [.int l1, .ref 207, .int l1, .ref 207], (223, kc, ks, pd_H g q27.2))) rfl ?_
          obtain ⟨hc32, h⟩ := pd_chk h
          refine ev_iald pp_Mo_act rfl (fun _ => rfl) hc32 ?_
          refine ev_gos pp_Mo_act 2 (S' := (88, [some (.ref 198), some (.int l1), some (.int l2), some (.int (v 200 l2.toNatClampNeg)), some (.int q27.1), none, none], [.int ((q27.2 207 l1.toNatClampNeg) + (1 : Int32)), .int l1, .ref 207], (223, kc, ks, pd_H g q27.2))) rfl ?_
          obtain ⟨hc33, h⟩ := pd_chk h
          refine ev_iast pp_Mo_act rfl (fun _ => rfl) hc33 ?_
          refine ev_gos pp_Mo_act 1 (S' := (233, [some (.ref 198), some (.int l1), some (.int l2), some (.int (v 200 l2.toNatClampNeg)), some (.int q27.1), none, none], [], (223, kc, ks, pd_H g (pd_w q27.2 207 l1.toNatClampNeg ((q27.2 207 l1.toNatClampNeg) + (1 : Int32)))))) rfl ?_
          cases h
          exact ev_fin pp_Mo_act rfl
        · rw [hb31]
          refine ev_gos pp_Mo_act 8 (S' := (74, [some (.ref 198), some (.int l1), some (.int l2), some (.int (v 200 l2.toNatClampNeg)), some (.int q27.1), none, none], [.int l1, .ref 207, .int ((20 : Int32) * l1), .ref 206], (223, kc, ks, pd_H g q27.2))) rfl ?_
          obtain ⟨hc34, h⟩ := pd_chk h
          refine ev_iald pp_Mo_act rfl (fun _ => rfl) hc34 ?_
          refine ev_gos pp_Mo_act 2 (S' := (78, [some (.ref 198), some (.int l1), some (.int l2), some (.int (v 200 l2.toNatClampNeg)), some (.int q27.1), none, none], [.int q27.1, .int (((20 : Int32) * l1) + (q27.2 207 l1.toNatClampNeg)), .ref 206], (223, kc, ks, pd_H g q27.2))) rfl ?_
          obtain ⟨hc35, h⟩ := pd_chk h
          refine ev_iast pp_Mo_act rfl (fun _ => rfl) hc35 ?_
          refine ev_gos pp_Mo_act 4 (S' := (85, [some (.ref 198), some (.int l1), some (.int l2), some (.int (v 200 l2.toNatClampNeg)), some (.int q27.1), none, none], [.int l1, .ref 207, .int l1, .ref 207], (223, kc, ks, pd_H g (pd_w q27.2 206 ((((20 : Int32) * l1) + (q27.2 207 l1.toNatClampNeg)).toNatClampNeg) q27.1)))) rfl ?_
          obtain ⟨hc36, h⟩ := pd_chk h
          refine ev_iald pp_Mo_act rfl (fun _ => rfl) hc36 ?_
          refine ev_gos pp_Mo_act 2 (S' := (88, [some (.ref 198), some (.int l1), some (.int l2), some (.int (v 200 l2.toNatClampNeg)), some (.int q27.1), none, none], [.int ((q27.2 207 l1.toNatClampNeg) + (1 : Int32)), .int l1, .ref 207], (223, kc, ks, pd_H g (pd_w q27.2 206 ((((20 : Int32) * l1) + (q27.2 207 l1.toNatClampNeg)).toNatClampNeg) q27.1)))) rfl ?_
          obtain ⟨hc37, h⟩ := pd_chk h
          refine ev_iast pp_Mo_act rfl (fun _ => rfl) hc37 ?_
          refine ev_gos pp_Mo_act 1 (S' := (233, [some (.ref 198), some (.int l1), some (.int l2), some (.int (v 200 l2.toNatClampNeg)), some (.int q27.1), none, none], [], (223, kc, ks, pd_H g (pd_w (pd_w q27.2 206 ((((20 : Int32) * l1) + (q27.2 207 l1.toNatClampNeg)).toNatClampNeg) q27.1) 207 l1.toNatClampNeg ((q27.2 207 l1.toNatClampNeg) + (1 : Int32)))))) rfl ?_
          cases h
          exact ev_fin pp_Mo_act rfl
      · rw [hb29]
        refine ev_gos pp_Mo_act 0 (S' := (49, [some (.ref 198), some (.int l1), some (.int l2), some (.int (v 200 l2.toNatClampNeg)), some (.int q27.1), none, none], [], (223, kc, ks, pd_H g q27.2))) rfl ?_
        cases h
        exact ev_fin pp_Mo_act rfl
  · rw [hb2]
    refine ev_gos pp_Mo_act 4 (S' := (19, [some (.ref 198), some (.int l1), some (.int l2), some (.int (v 200 l2.toNatClampNeg)), none, none, none], [.int (1 : Int32), .int l1, .ref 209], (223, kc, ks, pd_H g v))) rfl ?_
    obtain ⟨hc38, h⟩ := pd_chk h
    refine ev_zast pp_Mo_act rfl (fun _ => rfl) hc38 pd_b1 ?_
    refine ev_gos pp_Mo_act 1 (S' := (233, [some (.ref 198), some (.int l1), some (.int l2), some (.int (v 200 l2.toNatClampNeg)), none, none, none], [], (223, kc, ks, pd_H g (pd_w v 209 l1.toNatClampNeg (1 : Int32))))) rfl ?_
    cases h
    exact ev_fin pp_Mo_act rfl
theorem pp_Mo_exchange {xs : Nat → Int32} {L : Nat} : (pj_P xs L 140).1 = fun S => pm_look tb_Mo_exchange S.1 S := rfl
def d_Mo_exchange_41 (w : Nat) (f : Nat) (l1 : Int32) (l2 : Int32) (l3 : Int32) (l5 : Int32) (v : pd_V) : Option pd_V := match f with
  | 0 => none
  | f + 1 =>
    bif decide ((8 : Int32) ≤ l5) then
      some v
    else
      bif !(decide (((l2 >>> (l5 &&& 31)) &&& (1 : Int32)) = 0)) then
        bif pm_in l5 8 then
        bif !(decide (((l2 >>> (((v 214 l5.toNatClampNeg) &&& (7 : Int32)) &&& 31)) &&& (1 : Int32)) = (1 : Int32))) then
          bif pm_in (((8 : Int32) * (l1 + l5)) + l3) 128 then
          d_Mo_exchange_41 w f l1 l2 l3 (l5 + (1 : Int32)) (pd_w v 204 ((((8 : Int32) * (l1 + l5)) + l3).toNatClampNeg) (0 : Int32))
          else none
        else
          bif pm_in ((v 214 l5.toNatClampNeg) &&& (7 : Int32)) 8 then
          bif pm_in (((8 : Int32) * (l1 + l5)) + l3) 128 then
          d_Mo_exchange_41 w f l1 l2 l3 (l5 + (1 : Int32)) (pd_w v 204 ((((8 : Int32) * (l1 + l5)) + l3).toNatClampNeg) (v 213 (((v 214 l5.toNatClampNeg) &&& (7 : Int32)).toNatClampNeg)))
          else none
          else none
        else none
      else
        d_Mo_exchange_41 w f l1 l2 l3 (l5 + (1 : Int32)) v
theorem s_Mo_exchange_41 {w : Nat} : ∀ (f : Nat) (l1 : Int32) (l2 : Int32) (l3 : Int32) (l5 : Int32) (v : pd_V) (y4 : Int32) (y6 : Option Value) (q : pd_V) , d_Mo_exchange_41 w f l1 l2 l3 l5 v = some q → pm_ev (pj_P xs L) d 140 (41, [some (.ref 198), some (.int l1), some (.int l2), some (.int l3), some (.int y4), some (.int l5), y6], [], (223, kc, ks, pd_H g v)) (.inl none, (223, kc, ks, pd_H g q)) := by
  intro f
  induction f with
  | zero => intro l1 l2 l3 l5 v y4 y6 q h; exact nomatch (show (none : Option pd_V) = some q from h)
  | succ f ih =>
    intro l1 l2 l3 l5 v y4 y6 q h
    rw [d_Mo_exchange_41] at h
    refine ev_gos pp_Mo_exchange 2 (S' := (45, [some (.ref 198), some (.int l1), some (.int l2), some (.int l3), some (.int y4), some (.int l5), y6], [.int (8 : Int32), .int l5], (223, kc, ks, pd_H g v))) rfl ?_
    refine ev_gos pp_Mo_exchange 1 (S' := (bif decide ((8 : Int32) ≤ l5) then 113 else 48, [some (.ref 198), some (.int l1), some (.int l2), some (.int l3), some (.int y4), some (.int l5), y6], [], (223, kc, ks, pd_H g v))) rfl ?_
    rcases pd_cases h with ⟨hb1, h⟩ | ⟨hb1, h⟩
    · rw [hb1]
      refine ev_gos pp_Mo_exchange 0 (S' := (113, [some (.ref 198), some (.int l1), some (.int l2), some (.int l3), some (.int y4), some (.int l5), y6], [], (223, kc, ks, pd_H g v))) rfl ?_
      cases h
      exact ev_fin pp_Mo_exchange rfl
    · rw [hb1]
      refine ev_gos pp_Mo_exchange 5 (S' := (54, [some (.ref 198), some (.int l1), some (.int l2), some (.int l3), some (.int y4), some (.int l5), y6], [.int ((l2 >>> (l5 &&& 31)) &&& (1 : Int32))], (223, kc, ks, pd_H g v))) rfl ?_
      refine ev_gos pp_Mo_exchange 1 (S' := (bif !(decide (((l2 >>> (l5 &&& 31)) &&& (1 : Int32)) = 0)) then 60 else 57, [some (.ref 198), some (.int l1), some (.int l2), some (.int l3), some (.int y4), some (.int l5), y6], [], (223, kc, ks, pd_H g v))) rfl ?_
      rcases pd_cases h with ⟨hb2, h⟩ | ⟨hb2, h⟩
      · rw [hb2]
        refine ev_gos pp_Mo_exchange 3 (S' := (66, [some (.ref 198), some (.int l1), some (.int l2), some (.int l3), some (.int y4), some (.int l5), y6], [.int l5, .ref 214], (223, kc, ks, pd_H g v))) rfl ?_
        obtain ⟨hc3, h⟩ := pd_chk h
        refine ev_iald pp_Mo_exchange rfl (fun _ => rfl) hc3 ?_
        refine ev_gos pp_Mo_exchange 18 (S' := (92, [some (.ref 198), some (.int l1), some (.int l2), some (.int l3), some (.int y4), some (.int l5), some (.int ((v 214 l5.toNatClampNeg) &&& (7 : Int32)))], [.int (1 : Int32), .int ((l2 >>> (((v 214 l5.toNatClampNeg) &&& (7 : Int32)) &&& 31)) &&& (1 : Int32)), .int (((8 : Int32) * (l1 + l5)) + l3), .ref 204], (223, kc, ks, pd_H g v))) rfl ?_
        refine ev_gos pp_Mo_exchange 1 (S' := (bif !(decide (((l2 >>> (((v 214 l5.toNatClampNeg) &&& (7 : Int32)) &&& 31)) &&& (1 : Int32)) = (1 : Int32))) then 105 else 95, [some (.ref 198), some (.int l1), some (.int l2), some (.int l3), some (.int y4), some (.int l5), some (.int ((v 214 l5.toNatClampNeg) &&& (7 : Int32)))], [.int (((8 : Int32) * (l1 + l5)) + l3), .ref 204], (223, kc, ks, pd_H g v))) rfl ?_
        rcases pd_cases h with ⟨hb4, h⟩ | ⟨hb4, h⟩
        · rw [hb4]
          refine ev_gos pp_Mo_exchange 1 (S' := (106, [some (.ref 198), some (.int l1), some (.int l2), some (.int l3), some (.int y4), some (.int l5), some (.int ((v 214 l5.toNatClampNeg) &&& (7 : Int32)))], [.int (0 : Int32), .int (((8 : Int32) * (l1 + l5)) + l3), .ref 204], (223, kc, ks, pd_H g v))) rfl ?_
          obtain ⟨hc5, h⟩ := pd_chk h
          refine ev_iast pp_Mo_exchange rfl (fun _ => rfl) hc5 ?_
          refine ev_gos pp_Mo_exchange 2 (S' := (41, [some (.ref 198), some (.int l1), some (.int l2), some (.int l3), some (.int y4), some (.int (l5 + (1 : Int32))), some (.int ((v 214 l5.toNatClampNeg) &&& (7 : Int32)))], [], (223, kc, ks, pd_H g (pd_w v 204 ((((8 : Int32) * (l1 + l5)) + l3).toNatClampNeg) (0 : Int32))))) rfl ?_
          exact ih _ _ _ _ _ _ _ _  h
        · rw [hb4]
          refine ev_gos pp_Mo_exchange 3 (S' := (101, [some (.ref 198), some (.int l1), some (.int l2), some (.int l3), some (.int y4), some (.int l5), some (.int ((v 214 l5.toNatClampNeg) &&& (7 : Int32)))], [.int ((v 214 l5.toNatClampNeg) &&& (7 : Int32)), .ref 213, .int (((8 : Int32) * (l1 + l5)) + l3), .ref 204], (223, kc, ks, pd_H g v))) rfl ?_
          obtain ⟨hc6, h⟩ := pd_chk h
          refine ev_iald pp_Mo_exchange rfl (fun _ => rfl) hc6 ?_
          refine ev_gos pp_Mo_exchange 1 (S' := (106, [some (.ref 198), some (.int l1), some (.int l2), some (.int l3), some (.int y4), some (.int l5), some (.int ((v 214 l5.toNatClampNeg) &&& (7 : Int32)))], [.int (v 213 (((v 214 l5.toNatClampNeg) &&& (7 : Int32)).toNatClampNeg)), .int (((8 : Int32) * (l1 + l5)) + l3), .ref 204], (223, kc, ks, pd_H g v))) rfl ?_
          obtain ⟨hc7, h⟩ := pd_chk h
          refine ev_iast pp_Mo_exchange rfl (fun _ => rfl) hc7 ?_
          refine ev_gos pp_Mo_exchange 2 (S' := (41, [some (.ref 198), some (.int l1), some (.int l2), some (.int l3), some (.int y4), some (.int (l5 + (1 : Int32))), some (.int ((v 214 l5.toNatClampNeg) &&& (7 : Int32)))], [], (223, kc, ks, pd_H g (pd_w v 204 ((((8 : Int32) * (l1 + l5)) + l3).toNatClampNeg) (v 213 (((v 214 l5.toNatClampNeg) &&& (7 : Int32)).toNatClampNeg)))))) rfl ?_
          exact ih _ _ _ _ _ _ _ _  h
      · rw [hb2]
        refine ev_gos pp_Mo_exchange 3 (S' := (41, [some (.ref 198), some (.int l1), some (.int l2), some (.int l3), some (.int y4), some (.int (l5 + (1 : Int32))), y6], [], (223, kc, ks, pd_H g v))) rfl ?_
        exact ih _ _ _ _ _ _ _ _  h
def d_Mo_exchange_3 (w : Nat) (f : Nat) (l1 : Int32) (l2 : Int32) (l3 : Int32) (l4 : Int32) (l5 : Int32) (v : pd_V) : Option pd_V := match f with
  | 0 => none
  | f + 1 =>
    bif decide ((8 : Int32) ≤ l5) then
      d_Mo_exchange_41 w w l1 l2 l3 (0 : Int32) v
    else
      bif pm_in (((8 : Int32) * (l1 + l5)) + l4) 128 then
      bif pm_in l5 8 then
      d_Mo_exchange_3 w f l1 l2 l3 l4 (l5 + (1 : Int32)) (pd_w v 213 l5.toNatClampNeg (v 204 ((((8 : Int32) * (l1 + l5)) + l4).toNatClampNeg)))
      else none
      else none
theorem s_Mo_exchange_3 {w : Nat} : ∀ (f : Nat) (l1 : Int32) (l2 : Int32) (l3 : Int32) (l4 : Int32) (l5 : Int32) (v : pd_V) (y6 : Option Value) (q : pd_V) , d_Mo_exchange_3 w f l1 l2 l3 l4 l5 v = some q → pm_ev (pj_P xs L) d 140 (3, [some (.ref 198), some (.int l1), some (.int l2), some (.int l3), some (.int l4), some (.int l5), y6], [], (223, kc, ks, pd_H g v)) (.inl none, (223, kc, ks, pd_H g q)) := by
  intro f
  induction f with
  | zero => intro l1 l2 l3 l4 l5 v y6 q h; exact nomatch (show (none : Option pd_V) = some q from h)
  | succ f ih =>
    intro l1 l2 l3 l4 l5 v y6 q h
    rw [d_Mo_exchange_3] at h
    refine ev_gos pp_Mo_exchange 2 (S' := (7, [some (.ref 198), some (.int l1), some (.int l2), some (.int l3), some (.int l4), some (.int l5), y6], [.int (8 : Int32), .int l5], (223, kc, ks, pd_H g v))) rfl ?_
    refine ev_gos pp_Mo_exchange 1 (S' := (bif decide ((8 : Int32) ≤ l5) then 38 else 10, [some (.ref 198), some (.int l1), some (.int l2), some (.int l3), some (.int l4), some (.int l5), y6], [], (223, kc, ks, pd_H g v))) rfl ?_
    rcases pd_cases h with ⟨hb1, h⟩ | ⟨hb1, h⟩
    · rw [hb1]
      refine ev_gos pp_Mo_exchange 2 (S' := (41, [some (.ref 198), some (.int l1), some (.int l2), some (.int l3), some (.int l4), some (.int (0 : Int32)), y6], [], (223, kc, ks, pd_H g v))) rfl ?_
      exact s_Mo_exchange_41 _ _ _ _ _ _ _ _ _  h
    · rw [hb1]
      refine ev_gos pp_Mo_exchange 12 (S' := (30, [some (.ref 198), some (.int l1), some (.int l2), some (.int l3), some (.int l4), some (.int l5), y6], [.int (((8 : Int32) * (l1 + l5)) + l4), .ref 204, .int l5, .ref 213], (223, kc, ks, pd_H g v))) rfl ?_
      obtain ⟨hc2, h⟩ := pd_chk h
      refine ev_iald pp_Mo_exchange rfl (fun _ => rfl) hc2 ?_
      refine ev_gos pp_Mo_exchange 0 (S' := (31, [some (.ref 198), some (.int l1), some (.int l2), some (.int l3), some (.int l4), some (.int l5), y6], [.int (v 204 ((((8 : Int32) * (l1 + l5)) + l4).toNatClampNeg)), .int l5, .ref 213], (223, kc, ks, pd_H g v))) rfl ?_
      obtain ⟨hc3, h⟩ := pd_chk h
      refine ev_iast pp_Mo_exchange rfl (fun _ => rfl) hc3 ?_
      refine ev_gos pp_Mo_exchange 2 (S' := (3, [some (.ref 198), some (.int l1), some (.int l2), some (.int l3), some (.int l4), some (.int (l5 + (1 : Int32))), y6], [], (223, kc, ks, pd_H g (pd_w v 213 l5.toNatClampNeg (v 204 ((((8 : Int32) * (l1 + l5)) + l4).toNatClampNeg)))))) rfl ?_
      exact ih _ _ _ _ _ _ _ _  h
def d_Mo_exchange (w : Nat) (l1 : Int32) (l2 : Int32) (l3 : Int32) (l4 : Int32) (v : pd_V) : Option pd_V :=
  d_Mo_exchange_3 w w l1 l2 l3 l4 (0 : Int32) v
theorem s_Mo_exchange {w : Nat} {l1 : Int32} {l2 : Int32} {l3 : Int32} {l4 : Int32} {v : pd_V} {q : pd_V}  (h : d_Mo_exchange w l1 l2 l3 l4 v = some q) : pm_ev (pj_P xs L) d 140 (0, [some (.ref 198), some (.int l1), some (.int l2), some (.int l3), some (.int l4), none, none], [], (223, kc, ks, pd_H g v)) (.inl none, (223, kc, ks, pd_H g q)) := by
  unfold d_Mo_exchange at h
  refine ev_gos pp_Mo_exchange 2 (S' := (3, [some (.ref 198), some (.int l1), some (.int l2), some (.int l3), some (.int l4), some (.int (0 : Int32)), none], [], (223, kc, ks, pd_H g v))) rfl ?_
  exact s_Mo_exchange_3 _ _ _ _ _ _ _ _ _  h
theorem pp_Mo_simple {xs : Nat → Int32} {L : Nat} : (pj_P xs L 138).1 = fun S => pm_look tb_Mo_simple S.1 S := rfl
def d_Mo_simple_23 (w : Nat) (f : Nat) (l1 : Int32) (l2 : Int32) (l3 : Int32) (l4 : Int32) (l5 : Int32) (v : pd_V) : Option pd_V := match f with
  | 0 => none
  | f + 1 =>
    bif decide ((8 : Int32) ≤ l5) then
      bif decide (l3 = 0) then
        some v
      else
        bif pm_in (l1 + (1 : Int32)) 160 then
        bif pm_in (l1 + (2 : Int32)) 160 then
        (d_Mo_exchange w (0 : Int32) l4 ((v 200 ((l1 + (1 : Int32)).toNatClampNeg)) - (97 : Int32)) ((v 200 ((l1 + (2 : Int32)).toNatClampNeg)) - (97 : Int32)) v).bind fun q5 =>
        some q5
        else none
        else none
    else
      bif !(decide (((l2 >>> (l5 &&& 31)) &&& (1 : Int32)) = 0)) then
        bif decide (l3 = 0) then
          (d_Mo_act w l5 l1 v).bind fun q8 =>
          bif pm_in l5 16 then
          bif decide ((q8 209 l5.toNatClampNeg) = 0) then
            d_Mo_simple_23 w f l1 l2 l3 (l4 ||| ((1 : Int32) <<< (l5 &&& 31))) (l5 + (1 : Int32)) q8
          else
            d_Mo_simple_23 w f l1 l2 l3 l4 (l5 + (1 : Int32)) q8
          else none
        else
          (d_Mo_valueOf w l5 (l1 + (3 : Int32)) l1 v).bind fun q11 =>
          bif pm_in l5 8 then
          bif pm_in l5 16 then
          bif decide ((q11.2 209 l5.toNatClampNeg) = 0) then
            d_Mo_simple_23 w f l1 l2 l3 (l4 ||| ((1 : Int32) <<< (l5 &&& 31))) (l5 + (1 : Int32)) (pd_w q11.2 214 l5.toNatClampNeg q11.1)
          else
            d_Mo_simple_23 w f l1 l2 l3 l4 (l5 + (1 : Int32)) (pd_w q11.2 214 l5.toNatClampNeg q11.1)
          else none
          else none
      else
        d_Mo_simple_23 w f l1 l2 l3 l4 (l5 + (1 : Int32)) v
theorem s_Mo_simple_23 {w : Nat} : ∀ (f : Nat) (l1 : Int32) (l2 : Int32) (l3 : Int32) (l4 : Int32) (l5 : Int32) (v : pd_V)  (q : pd_V) , d_Mo_simple_23 w f l1 l2 l3 l4 l5 v = some q → pm_ev (pj_P xs L) (d + 5) 138 (23, [some (.ref 198), some (.int l1), some (.int l2), some (.int l3), some (.int l4), some (.int l5)], [], (223, kc, ks, pd_H g v)) (.inl none, (223, kc, ks, pd_H g q)) := by
  intro f
  induction f with
  | zero => intro l1 l2 l3 l4 l5 v q h; exact nomatch (show (none : Option pd_V) = some q from h)
  | succ f ih =>
    intro l1 l2 l3 l4 l5 v q h
    rw [d_Mo_simple_23] at h
    refine ev_gos pp_Mo_simple 2 (S' := (27, [some (.ref 198), some (.int l1), some (.int l2), some (.int l3), some (.int l4), some (.int l5)], [.int (8 : Int32), .int l5], (223, kc, ks, pd_H g v))) rfl ?_
    refine ev_gos pp_Mo_simple 1 (S' := (bif decide ((8 : Int32) ≤ l5) then 103 else 30, [some (.ref 198), some (.int l1), some (.int l2), some (.int l3), some (.int l4), some (.int l5)], [], (223, kc, ks, pd_H g v))) rfl ?_
    rcases pd_cases h with ⟨hb1, h⟩ | ⟨hb1, h⟩
    · rw [hb1]
      refine ev_gos pp_Mo_simple 1 (S' := (104, [some (.ref 198), some (.int l1), some (.int l2), some (.int l3), some (.int l4), some (.int l5)], [.int l3], (223, kc, ks, pd_H g v))) rfl ?_
      refine ev_gos pp_Mo_simple 1 (S' := (bif decide (l3 = 0) then 136 else 107, [some (.ref 198), some (.int l1), some (.int l2), some (.int l3), some (.int l4), some (.int l5)], [], (223, kc, ks, pd_H g v))) rfl ?_
      rcases pd_cases h with ⟨hb2, h⟩ | ⟨hb2, h⟩
      · rw [hb2]
        refine ev_gos pp_Mo_simple 0 (S' := (136, [some (.ref 198), some (.int l1), some (.int l2), some (.int l3), some (.int l4), some (.int l5)], [], (223, kc, ks, pd_H g v))) rfl ?_
        cases h
        exact ev_fin pp_Mo_simple rfl
      · rw [hb2]
        refine ev_gos pp_Mo_simple 8 (S' := (118, [some (.ref 198), some (.int l1), some (.int l2), some (.int l3), some (.int l4), some (.int l5)], [.int (l1 + (1 : Int32)), .ref 200, .int l4, .int (0 : Int32), .ref 198], (223, kc, ks, pd_H g v))) rfl ?_
        obtain ⟨hc3, h⟩ := pd_chk h
        refine ev_iald pp_Mo_simple rfl (fun _ => rfl) hc3 ?_
        refine ev_gos pp_Mo_simple 7 (S' := (129, [some (.ref 198), some (.int l1), some (.int l2), some (.int l3), some (.int l4), some (.int l5)], [.int (l1 + (2 : Int32)), .ref 200, .int ((v 200 ((l1 + (1 : Int32)).toNatClampNeg)) - (97 : Int32)), .int l4, .int (0 : Int32), .ref 198], (223, kc, ks, pd_H g v))) rfl ?_
        obtain ⟨hc4, h⟩ := pd_chk h
        refine ev_iald pp_Mo_simple rfl (fun _ => rfl) hc4 ?_
        refine ev_gos pp_Mo_simple 2 (S' := (133, [some (.ref 198), some (.int l1), some (.int l2), some (.int l3), some (.int l4), some (.int l5)], [.int ((v 200 ((l1 + (2 : Int32)).toNatClampNeg)) - (97 : Int32)), .int ((v 200 ((l1 + (1 : Int32)).toNatClampNeg)) - (97 : Int32)), .int l4, .int (0 : Int32), .ref 198], (223, kc, ks, pd_H g v))) rfl ?_
        obtain ⟨q5, hq5, h⟩ := pd_bind h
        refine ev_callv pp_Mo_simple rfl rfl rfl rfl (s_Mo_exchange hq5) ?_
        refine ev_gos pp_Mo_simple 0 (S' := (136, [some (.ref 198), some (.int l1), some (.int l2), some (.int l3), some (.int l4), some (.int l5)], [], (223, kc, ks, pd_H g q5))) rfl ?_
        cases h
        exact ev_fin pp_Mo_simple rfl
    · rw [hb1]
      refine ev_gos pp_Mo_simple 5 (S' := (36, [some (.ref 198), some (.int l1), some (.int l2), some (.int l3), some (.int l4), some (.int l5)], [.int ((l2 >>> (l5 &&& 31)) &&& (1 : Int32))], (223, kc, ks, pd_H g v))) rfl ?_
      refine ev_gos pp_Mo_simple 1 (S' := (bif !(decide (((l2 >>> (l5 &&& 31)) &&& (1 : Int32)) = 0)) then 42 else 39, [some (.ref 198), some (.int l1), some (.int l2), some (.int l3), some (.int l4), some (.int l5)], [], (223, kc, ks, pd_H g v))) rfl ?_
      rcases pd_cases h with ⟨hb6, h⟩ | ⟨hb6, h⟩
      · rw [hb6]
        refine ev_gos pp_Mo_simple 1 (S' := (43, [some (.ref 198), some (.int l1), some (.int l2), some (.int l3), some (.int l4), some (.int l5)], [.int l3], (223, kc, ks, pd_H g v))) rfl ?_
        refine ev_gos pp_Mo_simple 1 (S' := (bif decide (l3 = 0) then 66 else 46, [some (.ref 198), some (.int l1), some (.int l2), some (.int l3), some (.int l4), some (.int l5)], [], (223, kc, ks, pd_H g v))) rfl ?_
        rcases pd_cases h with ⟨hb7, h⟩ | ⟨hb7, h⟩
        · rw [hb7]
          refine ev_gos pp_Mo_simple 3 (S' := (70, [some (.ref 198), some (.int l1), some (.int l2), some (.int l3), some (.int l4), some (.int l5)], [.int l1, .int l5, .ref 198], (223, kc, ks, pd_H g v))) rfl ?_
          obtain ⟨q8, hq8, h⟩ := pd_bind h
          refine ev_callv pp_Mo_simple rfl rfl rfl rfl (s_Mo_act hq8) ?_
          refine ev_gos pp_Mo_simple 3 (S' := (79, [some (.ref 198), some (.int l1), some (.int l2), some (.int l3), some (.int l4), some (.int l5)], [.int l5, .ref 209], (223, kc, ks, pd_H g q8))) rfl ?_
          obtain ⟨hc9, h⟩ := pd_chk h
          refine ev_zald pp_Mo_simple rfl (fun _ => rfl) hc9 ?_
          refine ev_gos pp_Mo_simple 0 (S' := (80, [some (.ref 198), some (.int l1), some (.int l2), some (.int l3), some (.int l4), some (.int l5)], [.int (q8 209 l5.toNatClampNeg)], (223, kc, ks, pd_H g q8))) rfl ?_
          refine ev_gos pp_Mo_simple 1 (S' := (bif decide ((q8 209 l5.toNatClampNeg) = 0) then 88 else 83, [some (.ref 198), some (.int l1), some (.int l2), some (.int l3), some (.int l4), some (.int l5)], [], (223, kc, ks, pd_H g q8))) rfl ?_
          rcases pd_cases h with ⟨hb10, h⟩ | ⟨hb10, h⟩
          · rw [hb10]
            refine ev_gos pp_Mo_simple 8 (S' := (23, [some (.ref 198), some (.int l1), some (.int l2), some (.int l3), some (.int (l4 ||| ((1 : Int32) <<< (l5 &&& 31)))), some (.int (l5 + (1 : Int32)))], [], (223, kc, ks, pd_H g q8))) rfl ?_
            exact ih _ _ _ _ _ _ _  h
          · rw [hb10]
            refine ev_gos pp_Mo_simple 5 (S' := (23, [some (.ref 198), some (.int l1), some (.int l2), some (.int l3), some (.int l4), some (.int (l5 + (1 : Int32)))], [], (223, kc, ks, pd_H g q8))) rfl ?_
            exact ih _ _ _ _ _ _ _  h
        · rw [hb7]
          refine ev_gos pp_Mo_simple 9 (S' := (59, [some (.ref 198), some (.int l1), some (.int l2), some (.int l3), some (.int l4), some (.int l5)], [.int l1, .int (l1 + (3 : Int32)), .int l5, .ref 198, .int l5, .ref 214], (223, kc, ks, pd_H g v))) rfl ?_
          obtain ⟨q11, hq11, h⟩ := pd_bind h
          refine ev_callv pp_Mo_simple rfl rfl rfl rfl (s_Mo_valueOf hq11) ?_
          refine ev_gos pp_Mo_simple 0 (S' := (62, [some (.ref 198), some (.int l1), some (.int l2), some (.int l3), some (.int l4), some (.int l5)], [.int q11.1, .int l5, .ref 214], (223, kc, ks, pd_H g q11.2))) rfl ?_
          obtain ⟨hc12, h⟩ := pd_chk h
          refine ev_iast pp_Mo_simple rfl (fun _ => rfl) hc12 ?_
          refine ev_gos pp_Mo_simple 4 (S' := (79, [some (.ref 198), some (.int l1), some (.int l2), some (.int l3), some (.int l4), some (.int l5)], [.int l5, .ref 209], (223, kc, ks, pd_H g (pd_w q11.2 214 l5.toNatClampNeg q11.1)))) rfl ?_
          obtain ⟨hc13, h⟩ := pd_chk h
          refine ev_zald pp_Mo_simple rfl (fun _ => rfl) hc13 ?_
          refine ev_gos pp_Mo_simple 0 (S' := (80, [some (.ref 198), some (.int l1), some (.int l2), some (.int l3), some (.int l4), some (.int l5)], [.int (q11.2 209 l5.toNatClampNeg)], (223, kc, ks, pd_H g (pd_w q11.2 214 l5.toNatClampNeg q11.1)))) rfl ?_
          refine ev_gos pp_Mo_simple 1 (S' := (bif decide ((q11.2 209 l5.toNatClampNeg) = 0) then 88 else 83, [some (.ref 198), some (.int l1), some (.int l2), some (.int l3), some (.int l4), some (.int l5)], [], (223, kc, ks, pd_H g (pd_w q11.2 214 l5.toNatClampNeg q11.1)))) rfl ?_
          rcases pd_cases h with ⟨hb14, h⟩ | ⟨hb14, h⟩
          · rw [hb14]
            refine ev_gos pp_Mo_simple 8 (S' := (23, [some (.ref 198), some (.int l1), some (.int l2), some (.int l3), some (.int (l4 ||| ((1 : Int32) <<< (l5 &&& 31)))), some (.int (l5 + (1 : Int32)))], [], (223, kc, ks, pd_H g (pd_w q11.2 214 l5.toNatClampNeg q11.1)))) rfl ?_
            exact ih _ _ _ _ _ _ _  h
          · rw [hb14]
            refine ev_gos pp_Mo_simple 5 (S' := (23, [some (.ref 198), some (.int l1), some (.int l2), some (.int l3), some (.int l4), some (.int (l5 + (1 : Int32)))], [], (223, kc, ks, pd_H g (pd_w q11.2 214 l5.toNatClampNeg q11.1)))) rfl ?_
            exact ih _ _ _ _ _ _ _  h
      · rw [hb6]
        refine ev_gos pp_Mo_simple 3 (S' := (23, [some (.ref 198), some (.int l1), some (.int l2), some (.int l3), some (.int l4), some (.int (l5 + (1 : Int32)))], [], (223, kc, ks, pd_H g v))) rfl ?_
        exact ih _ _ _ _ _ _ _  h
def d_Mo_simple (w : Nat) (l1 : Int32) (l2 : Int32) (v : pd_V) : Option pd_V :=
  bif pm_in l1 160 then
  bif !(decide ((v 200 l1.toNatClampNeg) = (88 : Int32))) then
    d_Mo_simple_23 w w l1 l2 (0 : Int32) (0 : Int32) (0 : Int32) v
  else
    d_Mo_simple_23 w w l1 l2 (1 : Int32) (0 : Int32) (0 : Int32) v
  else none
theorem s_Mo_simple {w : Nat} {l1 : Int32} {l2 : Int32} {v : pd_V} {q : pd_V}  (h : d_Mo_simple w l1 l2 v = some q) : pm_ev (pj_P xs L) (d + 5) 138 (0, [some (.ref 198), some (.int l1), some (.int l2), none, none, none], [], (223, kc, ks, pd_H g v)) (.inl none, (223, kc, ks, pd_H g q)) := by
  unfold d_Mo_simple at h
  refine ev_gos pp_Mo_simple 3 (S' := (5, [some (.ref 198), some (.int l1), some (.int l2), none, none, none], [.int l1, .ref 200], (223, kc, ks, pd_H g v))) rfl ?_
  obtain ⟨hc1, h⟩ := pd_chk h
  refine ev_iald pp_Mo_simple rfl (fun _ => rfl) hc1 ?_
  refine ev_gos pp_Mo_simple 1 (S' := (8, [some (.ref 198), some (.int l1), some (.int l2), none, none, none], [.int (88 : Int32), .int (v 200 l1.toNatClampNeg)], (223, kc, ks, pd_H g v))) rfl ?_
  refine ev_gos pp_Mo_simple 1 (S' := (bif !(decide ((v 200 l1.toNatClampNeg) = (88 : Int32))) then 15 else 11, [some (.ref 198), some (.int l1), some (.int l2), none, none, none], [], (223, kc, ks, pd_H g v))) rfl ?_
  rcases pd_cases h with ⟨hb2, h⟩ | ⟨hb2, h⟩
  · rw [hb2]
    refine ev_gos pp_Mo_simple 6 (S' := (23, [some (.ref 198), some (.int l1), some (.int l2), some (.int (0 : Int32)), some (.int (0 : Int32)), some (.int (0 : Int32))], [], (223, kc, ks, pd_H g v))) rfl ?_
    exact s_Mo_simple_23 _ _ _ _ _ _ _ _  h
  · rw [hb2]
    refine ev_gos pp_Mo_simple 7 (S' := (23, [some (.ref 198), some (.int l1), some (.int l2), some (.int (1 : Int32)), some (.int (0 : Int32)), some (.int (0 : Int32))], [], (223, kc, ks, pd_H g v))) rfl ?_
    exact s_Mo_simple_23 _ _ _ _ _ _ _ _  h
end FN
