section FN
variable {xs : Nat → Int32} {L : Nat} {g : Nat → Int64} {d kc ks : Nat}
theorem pp_Int_bitCount {xs : Nat → Int32} {L : Nat} : (pj_P xs L 63).1 = fun S => pm_look tb_Int_bitCount S.1 S := rfl
def d_Int_bitCount (l0 : Int32)  : Int32 :=
  ((((((((l0 - (((l0.toUInt32 >>> ((1 : Int32).toUInt32 &&& Int32.toUInt32 31)).toInt32) &&& (1431655765 : Int32))) &&& (858993459 : Int32)) + ((((l0 - (((l0.toUInt32 >>> ((1 : Int32).toUInt32 &&& Int32.toUInt32 31)).toInt32) &&& (1431655765 : Int32))).toUInt32 >>> ((2 : Int32).toUInt32 &&& Int32.toUInt32 31)).toInt32) &&& (858993459 : Int32))) + (((((l0 - (((l0.toUInt32 >>> ((1 : Int32).toUInt32 &&& Int32.toUInt32 31)).toInt32) &&& (1431655765 : Int32))) &&& (858993459 : Int32)) + ((((l0 - (((l0.toUInt32 >>> ((1 : Int32).toUInt32 &&& Int32.toUInt32 31)).toInt32) &&& (1431655765 : Int32))).toUInt32 >>> ((2 : Int32).toUInt32 &&& Int32.toUInt32 31)).toInt32) &&& (858993459 : Int32))).toUInt32 >>> ((4 : Int32).toUInt32 &&& Int32.toUInt32 31)).toInt32)) &&& (252645135 : Int32)) + (((((((l0 - (((l0.toUInt32 >>> ((1 : Int32).toUInt32 &&& Int32.toUInt32 31)).toInt32) &&& (1431655765 : Int32))) &&& (858993459 : Int32)) + ((((l0 - (((l0.toUInt32 >>> ((1 : Int32).toUInt32 &&& Int32.toUInt32 31)).toInt32) &&& (1431655765 : Int32))).toUInt32 >>> ((2 : Int32).toUInt32 &&& Int32.toUInt32 31)).toInt32) &&& (858993459 : Int32))) + (((((l0 - (((l0.toUInt32 >>> ((1 : Int32).toUInt32 &&& Int32.toUInt32 31)).toInt32) &&& (1431655765 : Int32))) &&& (858993459 : Int32)) + ((((l0 - (((l0.toUInt32 >>> ((1 : Int32).toUInt32 &&& Int32.toUInt32 31)).toInt32) &&& (1431655765 : Int32))).toUInt32 >>> ((2 : Int32).toUInt32 &&& Int32.toUInt32 31)).toInt32) &&& (858993459 : Int32))).toUInt32 >>> ((4 : Int32).toUInt32 &&& Int32.toUInt32 31)).toInt32)) &&& (252645135 : Int32)).toUInt32 >>> ((8 : Int32).toUInt32 &&& Int32.toUInt32 31)).toInt32)) + ((((((((l0 - (((l0.toUInt32 >>> ((1 : Int32).toUInt32 &&& Int32.toUInt32 31)).toInt32) &&& (1431655765 : Int32))) &&& (858993459 : Int32)) + ((((l0 - (((l0.toUInt32 >>> ((1 : Int32).toUInt32 &&& Int32.toUInt32 31)).toInt32) &&& (1431655765 : Int32))).toUInt32 >>> ((2 : Int32).toUInt32 &&& Int32.toUInt32 31)).toInt32) &&& (858993459 : Int32))) + (((((l0 - (((l0.toUInt32 >>> ((1 : Int32).toUInt32 &&& Int32.toUInt32 31)).toInt32) &&& (1431655765 : Int32))) &&& (858993459 : Int32)) + ((((l0 - (((l0.toUInt32 >>> ((1 : Int32).toUInt32 &&& Int32.toUInt32 31)).toInt32) &&& (1431655765 : Int32))).toUInt32 >>> ((2 : Int32).toUInt32 &&& Int32.toUInt32 31)).toInt32) &&& (858993459 : Int32))).toUInt32 >>> ((4 : Int32).toUInt32 &&& Int32.toUInt32 31)).toInt32)) &&& (252645135 : Int32)) + (((((((l0 - (((l0.toUInt32 >>> ((1 : Int32).toUInt32 &&& Int32.toUInt32 31)).toInt32) &&& (1431655765 : Int32))) &&& (858993459 : Int32)) + ((((l0 - (((l0.toUInt32 >>> ((1 : Int32).toUInt32 &&& Int32.toUInt32 31)).toInt32) &&& (1431655765 : Int32))).toUInt32 >>> ((2 : Int32).toUInt32 &&& Int32.toUInt32 31)).toInt32) &&& (858993459 : Int32))) + (((((l0 - (((l0.toUInt32 >>> ((1 : Int32).toUInt32 &&& Int32.toUInt32 31)).toInt32) &&& (1431655765 : Int32))) &&& (858993459 : Int32)) + ((((l0 - (((l0.toUInt32 >>> ((1 : Int32).toUInt32 &&& Int32.toUInt32 31)).toInt32) &&& (1431655765 : Int32))).toUInt32 >>> ((2 : Int32).toUInt32 &&& Int32.toUInt32 31)).toInt32) &&& (858993459 : Int32))).toUInt32 >>> ((4 : Int32).toUInt32 &&& Int32.toUInt32 31)).toInt32)) &&& (252645135 : Int32)).toUInt32 >>> ((8 : Int32).toUInt32 &&& Int32.toUInt32 31)).toInt32)).toUInt32 >>> ((16 : Int32).toUInt32 &&& Int32.toUInt32 31)).toInt32)) &&& (63 : Int32))
theorem s_Int_bitCount {l0 : Int32} {v : pd_V}  : pm_ev (pj_P xs L) d 63 (0, [some (.int l0)], [], (223, kc, ks, pd_H g v)) (.inl (some (.int (d_Int_bitCount l0))), (223, kc, ks, pd_H g v)) := by
  unfold d_Int_bitCount
  refine ev_gos pp_Int_bitCount 41 (S' := (52, [some (.int (((((((l0 - (((l0.toUInt32 >>> ((1 : Int32).toUInt32 &&& Int32.toUInt32 31)).toInt32) &&& (1431655765 : Int32))) &&& (858993459 : Int32)) + ((((l0 - (((l0.toUInt32 >>> ((1 : Int32).toUInt32 &&& Int32.toUInt32 31)).toInt32) &&& (1431655765 : Int32))).toUInt32 >>> ((2 : Int32).toUInt32 &&& Int32.toUInt32 31)).toInt32) &&& (858993459 : Int32))) + (((((l0 - (((l0.toUInt32 >>> ((1 : Int32).toUInt32 &&& Int32.toUInt32 31)).toInt32) &&& (1431655765 : Int32))) &&& (858993459 : Int32)) + ((((l0 - (((l0.toUInt32 >>> ((1 : Int32).toUInt32 &&& Int32.toUInt32 31)).toInt32) &&& (1431655765 : Int32))).toUInt32 >>> ((2 : Int32).toUInt32 &&& Int32.toUInt32 31)).toInt32) &&& (858993459 : Int32))).toUInt32 >>> ((4 : Int32).toUInt32 &&& Int32.toUInt32 31)).toInt32)) &&& (252645135 : Int32)) + (((((((l0 - (((l0.toUInt32 >>> ((1 : Int32).toUInt32 &&& Int32.toUInt32 31)).toInt32) &&& (1431655765 : Int32))) &&& (858993459 : Int32)) + ((((l0 - (((l0.toUInt32 >>> ((1 : Int32).toUInt32 &&& Int32.toUInt32 31)).toInt32) &&& (1431655765 : Int32))).toUInt32 >>> ((2 : Int32).toUInt32 &&& Int32.toUInt32 31)).toInt32) &&& (858993459 : Int32))) + (((((l0 - (((l0.toUInt32 >>> ((1 : Int32).toUInt32 &&& Int32.toUInt32 31)).toInt32) &&& (1431655765 : Int32))) &&& (858993459 : Int32)) + ((((l0 - (((l0.toUInt32 >>> ((1 : Int32).toUInt32 &&& Int32.toUInt32 31)).toInt32) &&& (1431655765 : Int32))).toUInt32 >>> ((2 : Int32).toUInt32 &&& Int32.toUInt32 31)).toInt32) &&& (858993459 : Int32))).toUInt32 >>> ((4 : Int32).toUInt32 &&& Int32.toUInt32 31)).toInt32)) &&& (252645135 : Int32)).toUInt32 >>> ((8 : Int32).toUInt32 &&& Int32.toUInt32 31)).toInt32)) + ((((((((l0 - (((l0.toUInt32 >>> ((1 : Int32).toUInt32 &&& Int32.toUInt32 31)).toInt32) &&& (1431655765 : Int32))) &&& (858993459 : Int32)) + ((((l0 - (((l0.toUInt32 >>> ((1 : Int32).toUInt32 &&& Int32.toUInt32 31)).toInt32) &&& (1431655765 : Int32))).toUInt32 >>> ((2 : Int32).toUInt32 &&& Int32.toUInt32 31)).toInt32) &&& (858993459 : Int32))) + (((((l0 - (((l0.toUInt32 >>> ((1 : Int32).toUInt32 &&& Int32.toUInt32 31)).toInt32) &&& (1431655765 : Int32))) &&& (858993459 : Int32)) + ((((l0 - (((l0.toUInt32 >>> ((1 : Int32).toUInt32 &&& Int32.toUInt32 31)).toInt32) &&& (1431655765 : Int32))).toUInt32 >>> ((2 : Int32).toUInt32 &&& Int32.toUInt32 31)).toInt32) &&& (858993459 : Int32))).toUInt32 >>> ((4 : Int32).toUInt32 &&& Int32.toUInt32 31)).toInt32)) &&& (252645135 : Int32)) + (((((((l0 - (((l0.toUInt32 >>> ((1 : Int32).toUInt32 &&& Int32.toUInt32 31)).toInt32) &&& (1431655765 : Int32))) &&& (858993459 : Int32)) + ((((l0 - (((l0.toUInt32 >>> ((1 : Int32).toUInt32 &&& Int32.toUInt32 31)).toInt32) &&& (1431655765 : Int32))).toUInt32 >>> ((2 : Int32).toUInt32 &&& Int32.toUInt32 31)).toInt32) &&& (858993459 : Int32))) + (((((l0 - (((l0.toUInt32 >>> ((1 : Int32).toUInt32 &&& Int32.toUInt32 31)).toInt32) &&& (1431655765 : Int32))) &&& (858993459 : Int32)) + ((((l0 - (((l0.toUInt32 >>> ((1 : Int32).toUInt32 &&& Int32.toUInt32 31)).toInt32) &&& (1431655765 : Int32))).toUInt32 >>> ((2 : Int32).toUInt32 &&& Int32.toUInt32 31)).toInt32) &&& (858993459 : Int32))).toUInt32 >>> ((4 : Int32).toUInt32 &&& Int32.toUInt32 31)).toInt32)) &&& (252645135 : Int32)).toUInt32 >>> ((8 : Int32).toUInt32 &&& Int32.toUInt32 31)).toInt32)).toUInt32 >>> ((16 : Int32).toUInt32 &&& Int32.toUInt32 31)).toInt32)))], [.int ((((((((l0 - (((l0.toUInt32 >>> ((1 : Int32).toUInt32 &&& Int32.toUInt32 31)).toInt32) &&& (1431655765 : Int32))) &&& (858993459 : Int32)) + ((((l0 - (((l0.toUInt32 >>> ((1 : Int32).toUInt32 &&& Int32.toUInt32 31)).toInt32) &&& (1431655765 : Int32))).toUInt32 >>> ((2 : Int32).toUInt32 &&& Int32.toUInt32 31)).toInt32) &&& (858993459 : Int32))) + (((((l0 - (((l0.toUInt32 >>> ((1 : Int32).toUInt32 &&& Int32.toUInt32 31)).toInt32) &&& (1431655765 : Int32))) &&& (858993459 : Int32)) + ((((l0 - (((l0.toUInt32 >>> ((1 : Int32).toUInt32 &&& Int32.toUInt32 31)).toInt32) &&& (1431655765 : Int32))).toUInt32 >>> ((2 : Int32).toUInt32 &&& Int32.toUInt32 31)).toInt32) &&& (858993459 : Int32))).toUInt32 >>> ((4 : Int32).toUInt32 &&& Int32.toUInt32 31)).toInt32)) &&& (252645135 : Int32)) + (((((((l0 - (((l0.toUInt32 >>> ((1 : Int32).toUInt32 &&& Int32.toUInt32 31)).toInt32) &&& (1431655765 : Int32))) &&& (858993459 : Int32)) + ((((l0 - (((l0.toUInt32 >>> ((1 : Int32).toUInt32 &&& Int32.toUInt32 31)).toInt32) &&& (1431655765 : Int32))).toUInt32 >>> ((2 : Int32).toUInt32 &&& Int32.toUInt32 31)).toInt32) &&& (858993459 : Int32))) + (((((l0 - (((l0.toUInt32 >>> ((1 : Int32).toUInt32 &&& Int32.toUInt32 31)).toInt32) &&& (1431655765 : Int32))) &&& (858993459 : Int32)) + ((((l0 - (((l0.toUInt32 >>> ((1 : Int32).toUInt32 &&& Int32.toUInt32 31)).toInt32) &&& (1431655765 : Int32))).toUInt32 >>> ((2 : Int32).toUInt32 &&& Int32.toUInt32 31)).toInt32) &&& (858993459 : Int32))).toUInt32 >>> ((4 : Int32).toUInt32 &&& Int32.toUInt32 31)).toInt32)) &&& (252645135 : Int32)).toUInt32 >>> ((8 : Int32).toUInt32 &&& Int32.toUInt32 31)).toInt32)) + ((((((((l0 - (((l0.toUInt32 >>> ((1 : Int32).toUInt32 &&& Int32.toUInt32 31)).toInt32) &&& (1431655765 : Int32))) &&& (858993459 : Int32)) + ((((l0 - (((l0.toUInt32 >>> ((1 : Int32).toUInt32 &&& Int32.toUInt32 31)).toInt32) &&& (1431655765 : Int32))).toUInt32 >>> ((2 : Int32).toUInt32 &&& Int32.toUInt32 31)).toInt32) &&& (858993459 : Int32))) + (((((l0 - (((l0.toUInt32 >>> ((1 : Int32).toUInt32 &&& Int32.toUInt32 31)).toInt32) &&& (1431655765 : Int32))) &&& (858993459 : Int32)) + ((((l0 - (((l0.toUInt32 >>> ((1 : Int32).toUInt32 &&& Int32.toUInt32 31)).toInt32) &&& (1431655765 : Int32))).toUInt32 >>> ((2 : Int32).toUInt32 &&& Int32.toUInt32 31)).toInt32) &&& (858993459 : Int32))).toUInt32 >>> ((4 : Int32).toUInt32 &&& Int32.toUInt32 31)).toInt32)) &&& (252645135 : Int32)) + (((((((l0 - (((l0.toUInt32 >>> ((1 : Int32).toUInt32 &&& Int32.toUInt32 31)).toInt32) &&& (1431655765 : Int32))) &&& (858993459 : Int32)) + ((((l0 - (((l0.toUInt32 >>> ((1 : Int32).toUInt32 &&& Int32.toUInt32 31)).toInt32) &&& (1431655765 : Int32))).toUInt32 >>> ((2 : Int32).toUInt32 &&& Int32.toUInt32 31)).toInt32) &&& (858993459 : Int32))) + (((((l0 - (((l0.toUInt32 >>> ((1 : Int32).toUInt32 &&& Int32.toUInt32 31)).toInt32) &&& (1431655765 : Int32))) &&& (858993459 : Int32)) + ((((l0 - (((l0.toUInt32 >>> ((1 : Int32).toUInt32 &&& Int32.toUInt32 31)).toInt32) &&& (1431655765 : Int32))).toUInt32 >>> ((2 : Int32).toUInt32 &&& Int32.toUInt32 31)).toInt32) &&& (858993459 : Int32))).toUInt32 >>> ((4 : Int32).toUInt32 &&& Int32.toUInt32 31)).toInt32)) &&& (252645135 : Int32)).toUInt32 >>> ((8 : Int32).toUInt32 &&& Int32.toUInt32 31)).toInt32)).toUInt32 >>> ((16 : Int32).toUInt32 &&& Int32.toUInt32 31)).toInt32)) &&& (63 : Int32))], (223, kc, ks, pd_H g v))) rfl ?_
  exact ev_fin pp_Int_bitCount rfl
theorem pp_Ke_kindAt {xs : Nat → Int32} {L : Nat} : (pj_P xs L 67).1 = fun S => pm_look tb_Ke_kindAt S.1 S := rfl
def d_Ke_kindAt (l0 : Nat) (l1 : Int32) (v : pd_V) : Option Int32 :=
  bif decide (l1 < 0) then
    some (48 : Int32)
  else
    bif decide ((160 : Int32) ≤ l1) then
      some (48 : Int32)
    else
      bif pm_in l1 160 then
      some (v (l0 + 2) l1.toNatClampNeg)
      else none
theorem s_Ke_kindAt {l0 : Nat} {l1 : Int32} {v : pd_V} {q : Int32} (hl0 : ker l0) (h : d_Ke_kindAt l0 l1 v = some q) : pm_ev (pj_P xs L) d 67 (0, [some (.ref l0), some (.int l1)], [], (223, kc, ks, pd_H g v)) (.inl (some (.int q)), (223, kc, ks, pd_H g v)) := by
  unfold d_Ke_kindAt at h
  refine ev_gos pp_Ke_kindAt 1 (S' := (1, [some (.ref l0), some (.int l1)], [.int l1], (223, kc, ks, pd_H g v))) rfl ?_
  refine ev_gos pp_Ke_kindAt 1 (S' := (bif decide (l1 < 0) then 20 else 4, [some (.ref l0), some (.int l1)], [], (223, kc, ks, pd_H g v))) rfl ?_
  rcases pd_cases h with ⟨hb1, h⟩ | ⟨hb1, h⟩
  · rw [hb1]
    refine ev_gos pp_Ke_kindAt 1 (S' := (22, [some (.ref l0), some (.int l1)], [.int (48 : Int32)], (223, kc, ks, pd_H g v))) rfl ?_
    cases h
    exact ev_fin pp_Ke_kindAt rfl
  · rw [hb1]
    refine ev_gos pp_Ke_kindAt 2 (S' := (8, [some (.ref l0), some (.int l1)], [.int (160 : Int32), .int l1], (223, kc, ks, pd_H g v))) rfl ?_
    refine ev_gos pp_Ke_kindAt 1 (S' := (bif decide ((160 : Int32) ≤ l1) then 20 else 11, [some (.ref l0), some (.int l1)], [], (223, kc, ks, pd_H g v))) rfl ?_
    rcases pd_cases h with ⟨hb2, h⟩ | ⟨hb2, h⟩
    · rw [hb2]
      refine ev_gos pp_Ke_kindAt 1 (S' := (22, [some (.ref l0), some (.int l1)], [.int (48 : Int32)], (223, kc, ks, pd_H g v))) rfl ?_
      cases h
      exact ev_fin pp_Ke_kindAt rfl
    · rw [hb2]
      refine ev_gos pp_Ke_kindAt 1 (S' := (12, [some (.ref l0), some (.int l1)], [.ref l0], (223, kc, ks, pd_H g v))) rfl ?_
      refine ev_get pp_Ke_kindAt rfl (c_ke hl0) rfl ?_
      refine ev_gos pp_Ke_kindAt 1 (S' := (16, [some (.ref l0), some (.int l1)], [.int l1, .ref (l0 + 2)], (223, kc, ks, pd_H g v))) rfl ?_
      obtain ⟨hc3, h⟩ := pd_chk h
      refine ev_iald pp_Ke_kindAt rfl (c_ke2 hl0) hc3 ?_
      refine ev_gos pp_Ke_kindAt 1 (S' := (22, [some (.ref l0), some (.int l1)], [.int (v (l0 + 2) l1.toNatClampNeg)], (223, kc, ks, pd_H g v))) rfl ?_
      cases h
      exact ev_fin pp_Ke_kindAt rfl
theorem pp_Ke_valueAt {xs : Nat → Int32} {L : Nat} : (pj_P xs L 68).1 = fun S => pm_look tb_Ke_valueAt S.1 S := rfl
def d_Ke_valueAt (l0 : Nat) (l1 : Int32) (v : pd_V) : Option Int32 :=
  bif decide (l1 < 0) then
    some (0 : Int32)
  else
    bif decide ((160 : Int32) ≤ l1) then
      some (0 : Int32)
    else
      bif pm_in l1 160 then
      some (v (l0 + 3) l1.toNatClampNeg)
      else none
theorem s_Ke_valueAt {l0 : Nat} {l1 : Int32} {v : pd_V} {q : Int32} (hl0 : ker l0) (h : d_Ke_valueAt l0 l1 v = some q) : pm_ev (pj_P xs L) d 68 (0, [some (.ref l0), some (.int l1)], [], (223, kc, ks, pd_H g v)) (.inl (some (.int q)), (223, kc, ks, pd_H g v)) := by
  unfold d_Ke_valueAt at h
  refine ev_gos pp_Ke_valueAt 1 (S' := (1, [some (.ref l0), some (.int l1)], [.int l1], (223, kc, ks, pd_H g v))) rfl ?_
  refine ev_gos pp_Ke_valueAt 1 (S' := (bif decide (l1 < 0) then 20 else 4, [some (.ref l0), some (.int l1)], [], (223, kc, ks, pd_H g v))) rfl ?_
  rcases pd_cases h with ⟨hb1, h⟩ | ⟨hb1, h⟩
  · rw [hb1]
    refine ev_gos pp_Ke_valueAt 1 (S' := (21, [some (.ref l0), some (.int l1)], [.int (0 : Int32)], (223, kc, ks, pd_H g v))) rfl ?_
    cases h
    exact ev_fin pp_Ke_valueAt rfl
  · rw [hb1]
    refine ev_gos pp_Ke_valueAt 2 (S' := (8, [some (.ref l0), some (.int l1)], [.int (160 : Int32), .int l1], (223, kc, ks, pd_H g v))) rfl ?_
    refine ev_gos pp_Ke_valueAt 1 (S' := (bif decide ((160 : Int32) ≤ l1) then 20 else 11, [some (.ref l0), some (.int l1)], [], (223, kc, ks, pd_H g v))) rfl ?_
    rcases pd_cases h with ⟨hb2, h⟩ | ⟨hb2, h⟩
    · rw [hb2]
      refine ev_gos pp_Ke_valueAt 1 (S' := (21, [some (.ref l0), some (.int l1)], [.int (0 : Int32)], (223, kc, ks, pd_H g v))) rfl ?_
      cases h
      exact ev_fin pp_Ke_valueAt rfl
    · rw [hb2]
      refine ev_gos pp_Ke_valueAt 1 (S' := (12, [some (.ref l0), some (.int l1)], [.ref l0], (223, kc, ks, pd_H g v))) rfl ?_
      refine ev_get pp_Ke_valueAt rfl (c_ke hl0) rfl ?_
      refine ev_gos pp_Ke_valueAt 1 (S' := (16, [some (.ref l0), some (.int l1)], [.int l1, .ref (l0 + 3)], (223, kc, ks, pd_H g v))) rfl ?_
      obtain ⟨hc3, h⟩ := pd_chk h
      refine ev_iald pp_Ke_valueAt rfl (c_ke3 hl0) hc3 ?_
      refine ev_gos pp_Ke_valueAt 1 (S' := (21, [some (.ref l0), some (.int l1)], [.int (v (l0 + 3) l1.toNatClampNeg)], (223, kc, ks, pd_H g v))) rfl ?_
      cases h
      exact ev_fin pp_Ke_valueAt rfl
theorem pp_De_slot {xs : Nat → Int32} {L : Nat} : (pj_P xs L 70).1 = fun S => pm_look tb_De_slot S.1 S := rfl
def d_De_slot (l0 : Int32) (l1 : Int32)  : Int32 :=
  (((l0 &&& (7 : Int32)) * (8 : Int32)) + (l1 &&& (7 : Int32)))
theorem s_De_slot {l0 : Int32} {l1 : Int32} {v : pd_V}  : pm_ev (pj_P xs L) d 70 (0, [some (.int l0), some (.int l1)], [], (223, kc, ks, pd_H g v)) (.inl (some (.int (d_De_slot l0 l1))), (223, kc, ks, pd_H g v)) := by
  unfold d_De_slot
  refine ev_gos pp_De_slot 9 (S' := (12, [some (.int l0), some (.int l1)], [.int (((l0 &&& (7 : Int32)) * (8 : Int32)) + (l1 &&& (7 : Int32)))], (223, kc, ks, pd_H g v))) rfl ?_
  exact ev_fin pp_De_slot rfl
theorem pp_Cr_variableOf {xs : Nat → Int32} {L : Nat} : (pj_P xs L 69).1 = fun S => pm_look tb_Cr_variableOf S.1 S := rfl
def d_Cr_variableOf (l0 : Nat) (l1 : Int32) (l2 : Int32) (v : pd_V) : Option Int32 :=
  bif pm_in (d_De_slot l1 l2) 64 then
  some (v (l0 + 2) ((d_De_slot l1 l2).toNatClampNeg))
  else none
theorem s_Cr_variableOf {l0 : Nat} {l1 : Int32} {l2 : Int32} {v : pd_V} {q : Int32} (hl0 : crw l0) (h : d_Cr_variableOf l0 l1 l2 v = some q) : pm_ev (pj_P xs L) (d + 1) 69 (0, [some (.ref l0), some (.int l1), some (.int l2)], [], (223, kc, ks, pd_H g v)) (.inl (some (.int q)), (223, kc, ks, pd_H g v)) := by
  unfold d_Cr_variableOf at h
  refine ev_gos pp_Cr_variableOf 1 (S' := (1, [some (.ref l0), some (.int l1), some (.int l2)], [.ref l0], (223, kc, ks, pd_H g v))) rfl ?_
  refine ev_get pp_Cr_variableOf rfl (c_cr hl0) rfl ?_
  refine ev_gos pp_Cr_variableOf 2 (S' := (6, [some (.ref l0), some (.int l1), some (.int l2)], [.int l2, .int l1, .ref (l0 + 2)], (223, kc, ks, pd_H g v))) rfl ?_
  refine ev_call pp_Cr_variableOf rfl rfl rfl (s_De_slot) ?_
  refine ev_gos pp_Cr_variableOf 0 (S' := (9, [some (.ref l0), some (.int l1), some (.int l2)], [.int (d_De_slot l1 l2), .ref (l0 + 2)], (223, kc, ks, pd_H g v))) rfl ?_
  obtain ⟨hc2, h⟩ := pd_chk h
  refine ev_iald pp_Cr_variableOf rfl (c_cr2 hl0) hc2 ?_
  refine ev_gos pp_Cr_variableOf 0 (S' := (10, [some (.ref l0), some (.int l1), some (.int l2)], [.int (v (l0 + 2) ((d_De_slot l1 l2).toNatClampNeg))], (223, kc, ks, pd_H g v))) rfl ?_
  cases h
  exact ev_fin pp_Cr_variableOf rfl
theorem pp_Cr_isOutside {xs : Nat → Int32} {L : Nat} : (pj_P xs L 72).1 = fun S => pm_look tb_Cr_isOutside S.1 S := rfl
def d_Cr_isOutside (l0 : Int32) (l1 : Int32)  : Int32 :=
  bif decide (l0 < 0) then
    (1 : Int32)
  else
    bif decide (l0 < l1) then
      (0 : Int32)
    else
      (1 : Int32)
theorem s_Cr_isOutside {l0 : Int32} {l1 : Int32} {v : pd_V}  : pm_ev (pj_P xs L) d 72 (0, [some (.int l0), some (.int l1)], [], (223, kc, ks, pd_H g v)) (.inl (some (.int (d_Cr_isOutside l0 l1))), (223, kc, ks, pd_H g v)) := by
  unfold d_Cr_isOutside
  refine ev_gos pp_Cr_isOutside 1 (S' := (1, [some (.int l0), some (.int l1)], [.int l0], (223, kc, ks, pd_H g v))) rfl ?_
  refine ev_gos pp_Cr_isOutside 1 (S' := (bif decide (l0 < 0) then 9 else 4, [some (.int l0), some (.int l1)], [], (223, kc, ks, pd_H g v))) rfl ?_
  cases hb1 : (decide (l0 < 0))
  · refine ev_gos pp_Cr_isOutside 2 (S' := (6, [some (.int l0), some (.int l1)], [.int l1, .int l0], (223, kc, ks, pd_H g v))) rfl ?_
    refine ev_gos pp_Cr_isOutside 1 (S' := (bif decide (l0 < l1) then 13 else 9, [some (.int l0), some (.int l1)], [], (223, kc, ks, pd_H g v))) rfl ?_
    cases hb2 : (decide (l0 < l1))
    · refine ev_gos pp_Cr_isOutside 2 (S' := (14, [some (.int l0), some (.int l1)], [.int (1 : Int32)], (223, kc, ks, pd_H g v))) rfl ?_
      exact ev_zret pp_Cr_isOutside rfl pd_b1
    · refine ev_gos pp_Cr_isOutside 1 (S' := (14, [some (.int l0), some (.int l1)], [.int (0 : Int32)], (223, kc, ks, pd_H g v))) rfl ?_
      exact ev_zret pp_Cr_isOutside rfl pd_b0
  · refine ev_gos pp_Cr_isOutside 2 (S' := (14, [some (.int l0), some (.int l1)], [.int (1 : Int32)], (223, kc, ks, pd_H g v))) rfl ?_
    exact ev_zret pp_Cr_isOutside rfl pd_b1
theorem z_Cr_isOutside {l0 : Int32} {l1 : Int32}   : (d_Cr_isOutside l0 l1 == 0 || d_Cr_isOutside l0 l1 == 1) = true := by
  unfold d_Cr_isOutside
  cases hb1 : (decide (l0 < 0))
  · cases hb2 : (decide (l0 < l1))
    · exact pd_b1
    · exact pd_b0
  · exact pd_b1
theorem pp_Cr_inputAt {xs : Nat → Int32} {L : Nat} : (pj_P xs L 71).1 = fun S => pm_look tb_Cr_inputAt S.1 S := rfl
def d_Cr_inputAt (l0 : Nat) (l1 : Int32) (v : pd_V) : Option (Int32 × pd_V) :=
  bif decide ((d_Cr_isOutside l1 (16 : Int32)) = 0) then
    bif pm_in l1 16 then
    some ((v (l0 + 1) l1.toNatClampNeg), v)
    else none
  else
    some ((0 : Int32), (pd_w v l0 9 (1 : Int32)))
theorem s_Cr_inputAt {l0 : Nat} {l1 : Int32} {v : pd_V} {q : (Int32 × pd_V)} (hl0 : crw l0) (h : d_Cr_inputAt l0 l1 v = some q) : pm_ev (pj_P xs L) (d + 1) 71 (0, [some (.ref l0), some (.int l1)], [], (223, kc, ks, pd_H g v)) (.inl (some (.int q.1)), (223, kc, ks, pd_H g q.2)) := by
  unfold d_Cr_inputAt at h
  refine ev_gos pp_Cr_inputAt 2 (S' := (3, [some (.ref l0), some (.int l1)], [.int (16 : Int32), .int l1], (223, kc, ks, pd_H g v))) rfl ?_
  refine ev_call pp_Cr_inputAt rfl rfl rfl (s_Cr_isOutside) ?_
  refine ev_gos pp_Cr_inputAt 0 (S' := (6, [some (.ref l0), some (.int l1)], [.int (d_Cr_isOutside l1 (16 : Int32))], (223, kc, ks, pd_H g v))) rfl ?_
  refine ev_gos pp_Cr_inputAt 1 (S' := (bif decide ((d_Cr_isOutside l1 (16 : Int32)) = 0) then 16 else 9, [some (.ref l0), some (.int l1)], [], (223, kc, ks, pd_H g v))) rfl ?_
  rcases pd_cases h with ⟨hb2, h⟩ | ⟨hb2, h⟩
  · rw [hb2]
    refine ev_gos pp_Cr_inputAt 1 (S' := (17, [some (.ref l0), some (.int l1)], [.ref l0], (223, kc, ks, pd_H g v))) rfl ?_
    refine ev_get pp_Cr_inputAt rfl (c_cr hl0) rfl ?_
    refine ev_gos pp_Cr_inputAt 1 (S' := (21, [some (.ref l0), some (.int l1)], [.int l1, .ref (l0 + 1)], (223, kc, ks, pd_H g v))) rfl ?_
    obtain ⟨hc3, h⟩ := pd_chk h
    refine ev_iald pp_Cr_inputAt rfl (c_cr1 hl0) hc3 ?_
    refine ev_gos pp_Cr_inputAt 0 (S' := (22, [some (.ref l0), some (.int l1)], [.int (v (l0 + 1) l1.toNatClampNeg)], (223, kc, ks, pd_H g v))) rfl ?_
    cases h
    exact ev_fin pp_Cr_inputAt rfl
  · rw [hb2]
    refine ev_gos pp_Cr_inputAt 2 (S' := (11, [some (.ref l0), some (.int l1)], [.int (1 : Int32), .ref l0], (223, kc, ks, pd_H g v))) rfl ?_
    refine ev_put pp_Cr_inputAt rfl (c_cr hl0) rfl rfl (pd_fit pd_b1) ?_
    refine ev_gos pp_Cr_inputAt 1 (S' := (15, [some (.ref l0), some (.int l1)], [.int (0 : Int32)], (223, kc, ks, pd_H g (pd_w v l0 9 (1 : Int32))))) rfl ?_
    cases h
    exact ev_fin pp_Cr_inputAt rfl
theorem pp_Cr_ownCellAt {xs : Nat → Int32} {L : Nat} : (pj_P xs L 73).1 = fun S => pm_look tb_Cr_ownCellAt S.1 S := rfl
def d_Cr_ownCellAt (l0 : Nat) (l1 : Int32) (l2 : Int32) (v : pd_V) : Option (Int32 × pd_V) :=
  bif decide ((d_Cr_isOutside l2 (8 : Int32)) = 0) then
    bif pm_in (d_De_slot l1 l2) 64 then
    some ((v (l0 + 3) ((d_De_slot l1 l2).toNatClampNeg)), v)
    else none
  else
    some ((0 : Int32), (pd_w v l0 9 (1 : Int32)))
theorem s_Cr_ownCellAt {l0 : Nat} {l1 : Int32} {l2 : Int32} {v : pd_V} {q : (Int32 × pd_V)} (hl0 : crw l0) (h : d_Cr_ownCellAt l0 l1 l2 v = some q) : pm_ev (pj_P xs L) (d + 1) 73 (0, [some (.ref l0), some (.int l1), some (.int l2)], [], (223, kc, ks, pd_H g v)) (.inl (some (.int q.1)), (223, kc, ks, pd_H g q.2)) := by
  unfold d_Cr_ownCellAt at h
  refine ev_gos pp_Cr_ownCellAt 2 (S' := (3, [some (.ref l0), some (.int l1), some (.int l2)], [.int (8 : Int32), .int l2], (223, kc, ks, pd_H g v))) rfl ?_
  refine ev_call pp_Cr_ownCellAt rfl rfl rfl (s_Cr_isOutside) ?_
  refine ev_gos pp_Cr_ownCellAt 0 (S' := (6, [some (.ref l0), some (.int l1), some (.int l2)], [.int (d_Cr_isOutside l2 (8 : Int32))], (223, kc, ks, pd_H g v))) rfl ?_
  refine ev_gos pp_Cr_ownCellAt 1 (S' := (bif decide ((d_Cr_isOutside l2 (8 : Int32)) = 0) then 16 else 9, [some (.ref l0), some (.int l1), some (.int l2)], [], (223, kc, ks, pd_H g v))) rfl ?_
  rcases pd_cases h with ⟨hb2, h⟩ | ⟨hb2, h⟩
  · rw [hb2]
    refine ev_gos pp_Cr_ownCellAt 1 (S' := (17, [some (.ref l0), some (.int l1), some (.int l2)], [.ref l0], (223, kc, ks, pd_H g v))) rfl ?_
    refine ev_get pp_Cr_ownCellAt rfl (c_cr hl0) rfl ?_
    refine ev_gos pp_Cr_ownCellAt 2 (S' := (22, [some (.ref l0), some (.int l1), some (.int l2)], [.int l2, .int l1, .ref (l0 + 3)], (223, kc, ks, pd_H g v))) rfl ?_
    refine ev_call pp_Cr_ownCellAt rfl rfl rfl (s_De_slot) ?_
    refine ev_gos pp_Cr_ownCellAt 0 (S' := (25, [some (.ref l0), some (.int l1), some (.int l2)], [.int (d_De_slot l1 l2), .ref (l0 + 3)], (223, kc, ks, pd_H g v))) rfl ?_
    obtain ⟨hc4, h⟩ := pd_chk h
    refine ev_iald pp_Cr_ownCellAt rfl (c_cr3 hl0) hc4 ?_
    refine ev_gos pp_Cr_ownCellAt 0 (S' := (26, [some (.ref l0), some (.int l1), some (.int l2)], [.int (v (l0 + 3) ((d_De_slot l1 l2).toNatClampNeg))], (223, kc, ks, pd_H g v))) rfl ?_
    cases h
    exact ev_fin pp_Cr_ownCellAt rfl
  · rw [hb2]
    refine ev_gos pp_Cr_ownCellAt 2 (S' := (11, [some (.ref l0), some (.int l1), some (.int l2)], [.int (1 : Int32), .ref l0], (223, kc, ks, pd_H g v))) rfl ?_
    refine ev_put pp_Cr_ownCellAt rfl (c_cr hl0) rfl rfl (pd_fit pd_b1) ?_
    refine ev_gos pp_Cr_ownCellAt 1 (S' := (15, [some (.ref l0), some (.int l1), some (.int l2)], [.int (0 : Int32)], (223, kc, ks, pd_H g (pd_w v l0 9 (1 : Int32))))) rfl ?_
    cases h
    exact ev_fin pp_Cr_ownCellAt rfl
theorem pp_Cr_joined {xs : Nat → Int32} {L : Nat} : (pj_P xs L 74).1 = fun S => pm_look tb_Cr_joined S.1 S := rfl
def d_Cr_joined (l0 : Int32) (l1 : Int32) (l2 : Int32)  : Int32 :=
  bif decide (l0 = (42 : Int32)) then
    (l1 * l2)
  else
    bif decide (l0 = (43 : Int32)) then
      (l1 + l2)
    else
      bif decide (l0 = (45 : Int32)) then
        (l1 - l2)
      else
        bif decide (l0 = (60 : Int32)) then
          bif decide (l2 ≤ l1) then
            (0 : Int32)
          else
            (1 : Int32)
        else
          bif decide (l0 = (61 : Int32)) then
            bif !(decide (l1 = l2)) then
              (0 : Int32)
            else
              (1 : Int32)
          else
            (l1 &&& l2)
theorem s_Cr_joined {l0 : Int32} {l1 : Int32} {l2 : Int32} {v : pd_V}  : pm_ev (pj_P xs L) d 74 (0, [some (.int l0), some (.int l1), some (.int l2)], [], (223, kc, ks, pd_H g v)) (.inl (some (.int (d_Cr_joined l0 l1 l2))), (223, kc, ks, pd_H g v)) := by
  unfold d_Cr_joined
  refine ev_gos pp_Cr_joined 1 (S' := (1, [some (.int l0), some (.int l1), some (.int l2)], [.int l0], (223, kc, ks, pd_H g v))) rfl ?_
  refine ev_gos pp_Cr_joined 1 (S' := (bif decide (l0 = (42 : Int32)) then 60 else bif decide (l0 = (43 : Int32)) then 52 else bif decide (l0 = (45 : Int32)) then 56 else bif decide (l0 = (60 : Int32)) then 64 else bif decide (l0 = (61 : Int32)) then 75 else 86, [some (.int l0), some (.int l1), some (.int l2)], [], (223, kc, ks, pd_H g v))) rfl ?_
  cases hb1 : (decide (l0 = (42 : Int32)))
  · cases hb2 : (decide (l0 = (43 : Int32)))
    · cases hb3 : (decide (l0 = (45 : Int32)))
      · cases hb4 : (decide (l0 = (60 : Int32)))
        · cases hb6 : (decide (l0 = (61 : Int32)))
          · refine ev_gos pp_Cr_joined 3 (S' := (89, [some (.int l0), some (.int l1), some (.int l2)], [.int (l1 &&& l2)], (223, kc, ks, pd_H g v))) rfl ?_
            exact ev_fin pp_Cr_joined rfl
          · refine ev_gos pp_Cr_joined 2 (S' := (77, [some (.int l0), some (.int l1), some (.int l2)], [.int l2, .int l1], (223, kc, ks, pd_H g v))) rfl ?_
            refine ev_gos pp_Cr_joined 1 (S' := (bif !(decide (l1 = l2)) then 84 else 80, [some (.int l0), some (.int l1), some (.int l2)], [], (223, kc, ks, pd_H g v))) rfl ?_
            cases hb7 : (!(decide (l1 = l2)))
            · refine ev_gos pp_Cr_joined 2 (S' := (85, [some (.int l0), some (.int l1), some (.int l2)], [.int (1 : Int32)], (223, kc, ks, pd_H g v))) rfl ?_
              exact ev_fin pp_Cr_joined rfl
            · refine ev_gos pp_Cr_joined 1 (S' := (85, [some (.int l0), some (.int l1), some (.int l2)], [.int (0 : Int32)], (223, kc, ks, pd_H g v))) rfl ?_
              exact ev_fin pp_Cr_joined rfl
        · refine ev_gos pp_Cr_joined 2 (S' := (66, [some (.int l0), some (.int l1), some (.int l2)], [.int l2, .int l1], (223, kc, ks, pd_H g v))) rfl ?_
          refine ev_gos pp_Cr_joined 1 (S' := (bif decide (l2 ≤ l1) then 73 else 69, [some (.int l0), some (.int l1), some (.int l2)], [], (223, kc, ks, pd_H g v))) rfl ?_
          cases hb5 : (decide (l2 ≤ l1))
          · refine ev_gos pp_Cr_joined 2 (S' := (74, [some (.int l0), some (.int l1), some (.int l2)], [.int (1 : Int32)], (223, kc, ks, pd_H g v))) rfl ?_
            exact ev_fin pp_Cr_joined rfl
          · refine ev_gos pp_Cr_joined 1 (S' := (74, [some (.int l0), some (.int l1), some (.int l2)], [.int (0 : Int32)], (223, kc, ks, pd_H g v))) rfl ?_
            exact ev_fin pp_Cr_joined rfl
      · refine ev_gos pp_Cr_joined 3 (S' := (59, [some (.int l0), some (.int l1), some (.int l2)], [.int (l1 - l2)], (223, kc, ks, pd_H g v))) rfl ?_
        exact ev_fin pp_Cr_joined rfl
    · refine ev_gos pp_Cr_joined 3 (S' := (55, [some (.int l0), some (.int l1), some (.int l2)], [.int (l1 + l2)], (223, kc, ks, pd_H g v))) rfl ?_
      exact ev_fin pp_Cr_joined rfl
  · refine ev_gos pp_Cr_joined 3 (S' := (63, [some (.int l0), some (.int l1), some (.int l2)], [.int (l1 * l2)], (223, kc, ks, pd_H g v))) rfl ?_
    exact ev_fin pp_Cr_joined rfl
theorem pp_Cr_reckon {xs : Nat → Int32} {L : Nat} : (pj_P xs L 66).1 = fun S => pm_look tb_Cr_reckon S.1 S := rfl
def d_Cr_reckon_6 (w : Nat) (f : Nat) (l0 : Nat) (l1 : Nat) (l3 : Int32) (l4 : Int32) (l5 : Int32) (l6 : Int32) (v : pd_V) : Option (Int32 × pd_V) := match f with
  | 0 => none
  | f + 1 =>
    bif decide (l3 ≤ l6) then
      bif pm_in (l5 &&& (7 : Int32)) 8 then
      some ((v (l0 + 7) ((l5 &&& (7 : Int32)).toNatClampNeg)), v)
      else none
    else
      bif !(decide ((v l0 9) = 0)) then
        bif pm_in (l5 &&& (7 : Int32)) 8 then
        some ((v (l0 + 7) ((l5 &&& (7 : Int32)).toNatClampNeg)), v)
        else none
      else
        (d_Ke_kindAt l1 l6 v).bind fun q5 =>
        bif decide (q5 = (48 : Int32)) then
          (d_Ke_valueAt l1 l6 v).bind fun q7 =>
          bif pm_in ((l5 + (1 : Int32)) &&& (7 : Int32)) 8 then
          d_Cr_reckon_6 w f l0 l1 l3 l4 (l5 + (1 : Int32)) (l6 + (1 : Int32)) (pd_w v (l0 + 7) (((l5 + (1 : Int32)) &&& (7 : Int32)).toNatClampNeg) q7)
          else none
        else
          bif decide (q5 = (73 : Int32)) then
            bif pm_in (l5 &&& (7 : Int32)) 8 then
            (d_Cr_inputAt l0 (v (l0 + 7) ((l5 &&& (7 : Int32)).toNatClampNeg)) v).bind fun q11 =>
            bif pm_in (l5 &&& (7 : Int32)) 8 then
            d_Cr_reckon_6 w f l0 l1 l3 l4 l5 (l6 + (1 : Int32)) (pd_w q11.2 (l0 + 7) ((l5 &&& (7 : Int32)).toNatClampNeg) q11.1)
            else none
            else none
          else
            bif decide (q5 = (76 : Int32)) then
              bif pm_in (l5 &&& (7 : Int32)) 8 then
              (d_Cr_ownCellAt l0 l4 (v (l0 + 7) ((l5 &&& (7 : Int32)).toNatClampNeg)) v).bind fun q15 =>
              bif pm_in (l5 &&& (7 : Int32)) 8 then
              d_Cr_reckon_6 w f l0 l1 l3 l4 l5 (l6 + (1 : Int32)) (pd_w q15.2 (l0 + 7) ((l5 &&& (7 : Int32)).toNatClampNeg) q15.1)
              else none
              else none
            else
              bif decide (q5 = (97 : Int32)) then
                (d_Ke_valueAt l1 l6 v).bind fun q18 =>
                (d_Cr_variableOf l0 l4 q18 v).bind fun q19 =>
                bif pm_in ((l5 + (1 : Int32)) &&& (7 : Int32)) 8 then
                d_Cr_reckon_6 w f l0 l1 l3 l4 (l5 + (1 : Int32)) (l6 + (1 : Int32)) (pd_w v (l0 + 7) (((l5 + (1 : Int32)) &&& (7 : Int32)).toNatClampNeg) q19)
                else none
              else
                bif decide (q5 = (110 : Int32)) then
                  bif pm_in ((l5 + (1 : Int32)) &&& (7 : Int32)) 8 then
                  d_Cr_reckon_6 w f l0 l1 l3 l4 (l5 + (1 : Int32)) (l6 + (1 : Int32)) (pd_w v (l0 + 7) (((l5 + (1 : Int32)) &&& (7 : Int32)).toNatClampNeg) l4)
                  else none
                else
                  bif pm_in ((l5 + (-1 : Int32)) &&& (7 : Int32)) 8 then
                  bif pm_in (((l5 + (-1 : Int32)) + (1 : Int32)) &&& (7 : Int32)) 8 then
                  bif pm_in ((l5 + (-1 : Int32)) &&& (7 : Int32)) 8 then
                  d_Cr_reckon_6 w f l0 l1 l3 l4 (l5 + (-1 : Int32)) (l6 + (1 : Int32)) (pd_w v (l0 + 7) (((l5 + (-1 : Int32)) &&& (7 : Int32)).toNatClampNeg) (d_Cr_joined q5 (v (l0 + 7) (((l5 + (-1 : Int32)) &&& (7 : Int32)).toNatClampNeg)) (v (l0 + 7) ((((l5 + (-1 : Int32)) + (1 : Int32)) &&& (7 : Int32)).toNatClampNeg))))
                  else none
                  else none
                  else none
set_option maxRecDepth 100000 in
set_option maxHeartbeats 4000000 in
theorem s_Cr_reckon_6 {w : Nat} : ∀ (f : Nat) (l0 : Nat) (l1 : Nat) (l3 : Int32) (l4 : Int32) (l5 : Int32) (l6 : Int32) (v : pd_V) (y2 : Int32) (y7 : Option Value) (q : (Int32 × pd_V)) (hl0 : crw l0) (hl1 : ker l1), d_Cr_reckon_6 w f l0 l1 l3 l4 l5 l6 v = some q → pm_ev (pj_P xs L) (d + 2) 66 (6, [some (.ref l0), some (.ref l1), some (.int y2), some (.int l3), some (.int l4), some (.int l5), some (.int l6), y7], [], (223, kc, ks, pd_H g v)) (.inl (some (.int q.1)), (223, kc, ks, pd_H g q.2)) := by
  intro f
  induction f with
  | zero => intro l0 l1 l3 l4 l5 l6 v y2 y7 q hl0 hl1 h; exact nomatch (show (none : Option (Int32 × pd_V)) = some q from h)
  | succ f ih =>
    intro l0 l1 l3 l4 l5 l6 v y2 y7 q hl0 hl1 h
    rw [d_Cr_reckon_6] at h
    refine ev_gos pp_Cr_reckon 2 (S' := (9, [some (.ref l0), some (.ref l1), some (.int y2), some (.int l3), some (.int l4), some (.int l5), some (.int l6), y7], [.int l3, .int l6], (223, kc, ks, pd_H g v))) rfl ?_
    refine ev_gos pp_Cr_reckon 1 (S' := (bif decide (l3 ≤ l6) then 250 else 12, [some (.ref l0), some (.ref l1), some (.int y2), some (.int l3), some (.int l4), some (.int l5), some (.int l6), y7], [], (223, kc, ks, pd_H g v))) rfl ?_
    rcases pd_cases h with ⟨hb1, h⟩ | ⟨hb1, h⟩
    · rw [hb1]
      refine ev_gos pp_Cr_reckon 1 (S' := (251, [some (.ref l0), some (.ref l1), some (.int y2), some (.int l3), some (.int l4), some (.int l5), some (.int l6), y7], [.ref l0], (223, kc, ks, pd_H g v))) rfl ?_
      refine ev_get pp_Cr_reckon rfl (c_cr hl0) rfl ?_
      refine ev_gos pp_Cr_reckon 3 (S' := (259, [some (.ref l0), some (.ref l1), some (.int y2), some (.int l3), some (.int l4), some (.int l5), some (.int l6), y7], [.int (l5 &&& (7 : Int32)), .ref (l0 + 7)], (223, kc, ks, pd_H g v))) rfl ?_
      obtain ⟨hc2, h⟩ := pd_chk h
      refine ev_iald pp_Cr_reckon rfl (c_cr7 hl0) hc2 ?_
      refine ev_gos pp_Cr_reckon 0 (S' := (260, [some (.ref l0), some (.ref l1), some (.int y2), some (.int l3), some (.int l4), some (.int l5), some (.int l6), y7], [.int (v (l0 + 7) ((l5 &&& (7 : Int32)).toNatClampNeg))], (223, kc, ks, pd_H g v))) rfl ?_
      cases h
      exact ev_fin pp_Cr_reckon rfl
    · rw [hb1]
      refine ev_gos pp_Cr_reckon 1 (S' := (13, [some (.ref l0), some (.ref l1), some (.int y2), some (.int l3), some (.int l4), some (.int l5), some (.int l6), y7], [.ref l0], (223, kc, ks, pd_H g v))) rfl ?_
      refine ev_get pp_Cr_reckon rfl (c_cr hl0) rfl ?_
      refine ev_gos pp_Cr_reckon 0 (S' := (16, [some (.ref l0), some (.ref l1), some (.int y2), some (.int l3), some (.int l4), some (.int l5), some (.int l6), y7], [.int (v l0 9)], (223, kc, ks, pd_H g v))) rfl ?_
      refine ev_gos pp_Cr_reckon 1 (S' := (bif !(decide ((v l0 9) = 0)) then 250 else 19, [some (.ref l0), some (.ref l1), some (.int y2), some (.int l3), some (.int l4), some (.int l5), some (.int l6), y7], [], (223, kc, ks, pd_H g v))) rfl ?_
      rcases pd_cases h with ⟨hb3, h⟩ | ⟨hb3, h⟩
      · rw [hb3]
        refine ev_gos pp_Cr_reckon 1 (S' := (251, [some (.ref l0), some (.ref l1), some (.int y2), some (.int l3), some (.int l4), some (.int l5), some (.int l6), y7], [.ref l0], (223, kc, ks, pd_H g v))) rfl ?_
        refine ev_get pp_Cr_reckon rfl (c_cr hl0) rfl ?_
        refine ev_gos pp_Cr_reckon 3 (S' := (259, [some (.ref l0), some (.ref l1), some (.int y2), some (.int l3), some (.int l4), some (.int l5), some (.int l6), y7], [.int (l5 &&& (7 : Int32)), .ref (l0 + 7)], (223, kc, ks, pd_H g v))) rfl ?_
        obtain ⟨hc4, h⟩ := pd_chk h
        refine ev_iald pp_Cr_reckon rfl (c_cr7 hl0) hc4 ?_
        refine ev_gos pp_Cr_reckon 0 (S' := (260, [some (.ref l0), some (.ref l1), some (.int y2), some (.int l3), some (.int l4), some (.int l5), some (.int l6), y7], [.int (v (l0 + 7) ((l5 &&& (7 : Int32)).toNatClampNeg))], (223, kc, ks, pd_H g v))) rfl ?_
        cases h
        exact ev_fin pp_Cr_reckon rfl
      · rw [hb3]
        refine ev_gos pp_Cr_reckon 2 (S' := (22, [some (.ref l0), some (.ref l1), some (.int y2), some (.int l3), some (.int l4), some (.int l5), some (.int l6), y7], [.int l6, .ref l1], (223, kc, ks, pd_H g v))) rfl ?_
        obtain ⟨q5, hq5, h⟩ := pd_bind h
        refine ev_callv pp_Cr_reckon rfl rfl (pd_isa (c_ke hl1)) rfl (s_Ke_kindAt hl1 hq5) ?_
        refine ev_gos pp_Cr_reckon 2 (S' := (29, [some (.ref l0), some (.ref l1), some (.int y2), some (.int l3), some (.int l4), some (.int l5), some (.int l6), some (.int q5)], [.int q5], (223, kc, ks, pd_H g v))) rfl ?_
        refine ev_gos pp_Cr_reckon 1 (S' := (bif decide (q5 = (48 : Int32)) then 80 else bif decide (q5 = (73 : Int32)) then 148 else bif decide (q5 = (76 : Int32)) then 175 else bif decide (q5 = (97 : Int32)) then 102 else bif decide (q5 = (110 : Int32)) then 130 else 204, [some (.ref l0), some (.ref l1), some (.int y2), some (.int l3), some (.int l4), some (.int l5), some (.int l6), some (.int q5)], [], (223, kc, ks, pd_H g v))) rfl ?_
        rcases pd_cases h with ⟨hb6, h⟩ | ⟨hb6, h⟩
        · rw [hb6]
          refine ev_gos pp_Cr_reckon 2 (S' := (84, [some (.ref l0), some (.ref l1), some (.int y2), some (.int l3), some (.int l4), some (.int (l5 + (1 : Int32))), some (.int l6), some (.int q5)], [.ref l0], (223, kc, ks, pd_H g v))) rfl ?_
          refine ev_get pp_Cr_reckon rfl (c_cr hl0) rfl ?_
          refine ev_gos pp_Cr_reckon 5 (S' := (95, [some (.ref l0), some (.ref l1), some (.int y2), some (.int l3), some (.int l4), some (.int (l5 + (1 : Int32))), some (.int l6), some (.int q5)], [.int l6, .ref l1, .int ((l5 + (1 : Int32)) &&& (7 : Int32)), .ref (l0 + 7)], (223, kc, ks, pd_H g v))) rfl ?_
          obtain ⟨q7, hq7, h⟩ := pd_bind h
          refine ev_callv pp_Cr_reckon rfl rfl (pd_isa (c_ke hl1)) rfl (s_Ke_valueAt hl1 hq7) ?_
          refine ev_gos pp_Cr_reckon 0 (S' := (98, [some (.ref l0), some (.ref l1), some (.int y2), some (.int l3), some (.int l4), some (.int (l5 + (1 : Int32))), some (.int l6), some (.int q5)], [.int q7, .int ((l5 + (1 : Int32)) &&& (7 : Int32)), .ref (l0 + 7)], (223, kc, ks, pd_H g v))) rfl ?_
          obtain ⟨hc8, h⟩ := pd_chk h
          refine ev_iast pp_Cr_reckon rfl (c_cr7 hl0) hc8 ?_
          refine ev_gos pp_Cr_reckon 3 (S' := (6, [some (.ref l0), some (.ref l1), some (.int y2), some (.int l3), some (.int l4), some (.int (l5 + (1 : Int32))), some (.int (l6 + (1 : Int32))), some (.int q5)], [], (223, kc, ks, pd_H g (pd_w v (l0 + 7) (((l5 + (1 : Int32)) &&& (7 : Int32)).toNatClampNeg) q7)))) rfl ?_
          exact ih _ _ _ _ _ _ _ _ _ _ hl0 hl1 h
        · rw [hb6]
          rcases pd_cases h with ⟨hb9, h⟩ | ⟨hb9, h⟩
          · rw [hb9]
            refine ev_gos pp_Cr_reckon 1 (S' := (149, [some (.ref l0), some (.ref l1), some (.int y2), some (.int l3), some (.int l4), some (.int l5), some (.int l6), some (.int q5)], [.ref l0], (223, kc, ks, pd_H g v))) rfl ?_
            refine ev_get pp_Cr_reckon rfl (c_cr hl0) rfl ?_
            refine ev_gos pp_Cr_reckon 5 (S' := (159, [some (.ref l0), some (.ref l1), some (.int y2), some (.int l3), some (.int l4), some (.int l5), some (.int l6), some (.int q5)], [.ref l0, .ref l0, .int (l5 &&& (7 : Int32)), .ref (l0 + 7)], (223, kc, ks, pd_H g v))) rfl ?_
            refine ev_get pp_Cr_reckon rfl (c_cr hl0) rfl ?_
            refine ev_gos pp_Cr_reckon 3 (S' := (167, [some (.ref l0), some (.ref l1), some (.int y2), some (.int l3), some (.int l4), some (.int l5), some (.int l6), some (.int q5)], [.int (l5 &&& (7 : Int32)), .ref (l0 + 7), .ref l0, .int (l5 &&& (7 : Int32)), .ref (l0 + 7)], (223, kc, ks, pd_H g v))) rfl ?_
            obtain ⟨hc10, h⟩ := pd_chk h
            refine ev_iald pp_Cr_reckon rfl (c_cr7 hl0) hc10 ?_
            refine ev_gos pp_Cr_reckon 0 (S' := (168, [some (.ref l0), some (.ref l1), some (.int y2), some (.int l3), some (.int l4), some (.int l5), some (.int l6), some (.int q5)], [.int (v (l0 + 7) ((l5 &&& (7 : Int32)).toNatClampNeg)), .ref l0, .int (l5 &&& (7 : Int32)), .ref (l0 + 7)], (223, kc, ks, pd_H g v))) rfl ?_
            obtain ⟨q11, hq11, h⟩ := pd_bind h
            refine ev_callv pp_Cr_reckon rfl rfl (pd_isa (c_cr hl0)) rfl (s_Cr_inputAt hl0 hq11) ?_
            refine ev_gos pp_Cr_reckon 0 (S' := (171, [some (.ref l0), some (.ref l1), some (.int y2), some (.int l3), some (.int l4), some (.int l5), some (.int l6), some (.int q5)], [.int q11.1, .int (l5 &&& (7 : Int32)), .ref (l0 + 7)], (223, kc, ks, pd_H g q11.2))) rfl ?_
            obtain ⟨hc12, h⟩ := pd_chk h
            refine ev_iast pp_Cr_reckon rfl (c_cr7 hl0) hc12 ?_
            refine ev_gos pp_Cr_reckon 3 (S' := (6, [some (.ref l0), some (.ref l1), some (.int y2), some (.int l3), some (.int l4), some (.int l5), some (.int (l6 + (1 : Int32))), some (.int q5)], [], (223, kc, ks, pd_H g (pd_w q11.2 (l0 + 7) ((l5 &&& (7 : Int32)).toNatClampNeg) q11.1)))) rfl ?_
            exact ih _ _ _ _ _ _ _ _ _ _ hl0 hl1 h
          · rw [hb9]
            rcases pd_cases h with ⟨hb13, h⟩ | ⟨hb13, h⟩
            · rw [hb13]
              refine ev_gos pp_Cr_reckon 1 (S' := (176, [some (.ref l0), some (.ref l1), some (.int y2), some (.int l3), some (.int l4), some (.int l5), some (.int l6), some (.int q5)], [.ref l0], (223, kc, ks, pd_H g v))) rfl ?_
              refine ev_get pp_Cr_reckon rfl (c_cr hl0) rfl ?_
              refine ev_gos pp_Cr_reckon 6 (S' := (188, [some (.ref l0), some (.ref l1), some (.int y2), some (.int l3), some (.int l4), some (.int l5), some (.int l6), some (.int q5)], [.ref l0, .int l4, .ref l0, .int (l5 &&& (7 : Int32)), .ref (l0 + 7)], (223, kc, ks, pd_H g v))) rfl ?_
              refine ev_get pp_Cr_reckon rfl (c_cr hl0) rfl ?_
              refine ev_gos pp_Cr_reckon 3 (S' := (196, [some (.ref l0), some (.ref l1), some (.int y2), some (.int l3), some (.int l4), some (.int l5), some (.int l6), some (.int q5)], [.int (l5 &&& (7 : Int32)), .ref (l0 + 7), .int l4, .ref l0, .int (l5 &&& (7 : Int32)), .ref (l0 + 7)], (223, kc, ks, pd_H g v))) rfl ?_
              obtain ⟨hc14, h⟩ := pd_chk h
              refine ev_iald pp_Cr_reckon rfl (c_cr7 hl0) hc14 ?_
              refine ev_gos pp_Cr_reckon 0 (S' := (197, [some (.ref l0), some (.ref l1), some (.int y2), some (.int l3), some (.int l4), some (.int l5), some (.int l6), some (.int q5)], [.int (v (l0 + 7) ((l5 &&& (7 : Int32)).toNatClampNeg)), .int l4, .ref l0, .int (l5 &&& (7 : Int32)), .ref (l0 + 7)], (223, kc, ks, pd_H g v))) rfl ?_
              obtain ⟨q15, hq15, h⟩ := pd_bind h
              refine ev_callv pp_Cr_reckon rfl rfl (pd_isa (c_cr hl0)) rfl (s_Cr_ownCellAt hl0 hq15) ?_
              refine ev_gos pp_Cr_reckon 0 (S' := (200, [some (.ref l0), some (.ref l1), some (.int y2), some (.int l3), some (.int l4), some (.int l5), some (.int l6), some (.int q5)], [.int q15.1, .int (l5 &&& (7 : Int32)), .ref (l0 + 7)], (223, kc, ks, pd_H g q15.2))) rfl ?_
              obtain ⟨hc16, h⟩ := pd_chk h
              refine ev_iast pp_Cr_reckon rfl (c_cr7 hl0) hc16 ?_
              refine ev_gos pp_Cr_reckon 3 (S' := (6, [some (.ref l0), some (.ref l1), some (.int y2), some (.int l3), some (.int l4), some (.int l5), some (.int (l6 + (1 : Int32))), some (.int q5)], [], (223, kc, ks, pd_H g (pd_w q15.2 (l0 + 7) ((l5 &&& (7 : Int32)).toNatClampNeg) q15.1)))) rfl ?_
              exact ih _ _ _ _ _ _ _ _ _ _ hl0 hl1 h
            · rw [hb13]
              rcases pd_cases h with ⟨hb17, h⟩ | ⟨hb17, h⟩
              · rw [hb17]
                refine ev_gos pp_Cr_reckon 2 (S' := (106, [some (.ref l0), some (.ref l1), some (.int y2), some (.int l3), some (.int l4), some (.int (l5 + (1 : Int32))), some (.int l6), some (.int q5)], [.ref l0], (223, kc, ks, pd_H g v))) rfl ?_
                refine ev_get pp_Cr_reckon rfl (c_cr hl0) rfl ?_
                refine ev_gos pp_Cr_reckon 7 (S' := (120, [some (.ref l0), some (.ref l1), some (.int y2), some (.int l3), some (.int l4), some (.int (l5 + (1 : Int32))), some (.int l6), some (.int q5)], [.int l6, .ref l1, .int l4, .ref l0, .int ((l5 + (1 : Int32)) &&& (7 : Int32)), .ref (l0 + 7)], (223, kc, ks, pd_H g v))) rfl ?_
                obtain ⟨q18, hq18, h⟩ := pd_bind h
                refine ev_callv pp_Cr_reckon rfl rfl (pd_isa (c_ke hl1)) rfl (s_Ke_valueAt hl1 hq18) ?_
                refine ev_gos pp_Cr_reckon 0 (S' := (123, [some (.ref l0), some (.ref l1), some (.int y2), some (.int l3), some (.int l4), some (.int (l5 + (1 : Int32))), some (.int l6), some (.int q5)], [.int q18, .int l4, .ref l0, .int ((l5 + (1 : Int32)) &&& (7 : Int32)), .ref (l0 + 7)], (223, kc, ks, pd_H g v))) rfl ?_
                obtain ⟨q19, hq19, h⟩ := pd_bind h
                refine ev_callv pp_Cr_reckon rfl rfl (pd_isa (c_cr hl0)) rfl (s_Cr_variableOf hl0 hq19) ?_
                refine ev_gos pp_Cr_reckon 0 (S' := (126, [some (.ref l0), some (.ref l1), some (.int y2), some (.int l3), some (.int l4), some (.int (l5 + (1 : Int32))), some (.int l6), some (.int q5)], [.int q19, .int ((l5 + (1 : Int32)) &&& (7 : Int32)), .ref (l0 + 7)], (223, kc, ks, pd_H g v))) rfl ?_
                obtain ⟨hc20, h⟩ := pd_chk h
                refine ev_iast pp_Cr_reckon rfl (c_cr7 hl0) hc20 ?_
                refine ev_gos pp_Cr_reckon 3 (S' := (6, [some (.ref l0), some (.ref l1), some (.int y2), some (.int l3), some (.int l4), some (.int (l5 + (1 : Int32))), some (.int (l6 + (1 : Int32))), some (.int q5)], [], (223, kc, ks, pd_H g (pd_w v (l0 + 7) (((l5 + (1 : Int32)) &&& (7 : Int32)).toNatClampNeg) q19)))) rfl ?_
                exact ih _ _ _ _ _ _ _ _ _ _ hl0 hl1 h
              · rw [hb17]
                rcases pd_cases h with ⟨hb21, h⟩ | ⟨hb21, h⟩
                · rw [hb21]
                  refine ev_gos pp_Cr_reckon 2 (S' := (134, [some (.ref l0), some (.ref l1), some (.int y2), some (.int l3), some (.int l4), some (.int (l5 + (1 : Int32))), some (.int l6), some (.int q5)], [.ref l0], (223, kc, ks, pd_H g v))) rfl ?_
                  refine ev_get pp_Cr_reckon rfl (c_cr hl0) rfl ?_
                  refine ev_gos pp_Cr_reckon 4 (S' := (144, [some (.ref l0), some (.ref l1), some (.int y2), some (.int l3), some (.int l4), some (.int (l5 + (1 : Int32))), some (.int l6), some (.int q5)], [.int l4, .int ((l5 + (1 : Int32)) &&& (7 : Int32)), .ref (l0 + 7)], (223, kc, ks, pd_H g v))) rfl ?_
                  obtain ⟨hc22, h⟩ := pd_chk h
                  refine ev_iast pp_Cr_reckon rfl (c_cr7 hl0) hc22 ?_
                  refine ev_gos pp_Cr_reckon 3 (S' := (6, [some (.ref l0), some (.ref l1), some (.int y2), some (.int l3), some (.int l4), some (.int (l5 + (1 : Int32))), some (.int (l6 + (1 : Int32))), some (.int q5)], [], (223, kc, ks, pd_H g (pd_w v (l0 + 7) (((l5 + (1 : Int32)) &&& (7 : Int32)).toNatClampNeg) l4)))) rfl ?_
                  exact ih _ _ _ _ _ _ _ _ _ _ hl0 hl1 h
                · rw [hb21]
                  refine ev_gos pp_Cr_reckon 2 (S' := (208, [some (.ref l0), some (.ref l1), some (.int y2), some (.int l3), some (.int l4), some (.int (l5 + (-1 : Int32))), some (.int l6), some (.int q5)], [.ref l0], (223, kc, ks, pd_H g v))) rfl ?_
                  refine ev_get pp_Cr_reckon rfl (c_cr hl0) rfl ?_
                  refine ev_gos pp_Cr_reckon 5 (S' := (219, [some (.ref l0), some (.ref l1), some (.int y2), some (.int l3), some (.int l4), some (.int (l5 + (-1 : Int32))), some (.int l6), some (.int q5)], [.ref l0, .int q5, .int ((l5 + (-1 : Int32)) &&& (7 : Int32)), .ref (l0 + 7)], (223, kc, ks, pd_H g v))) rfl ?_
                  refine ev_get pp_Cr_reckon rfl (c_cr hl0) rfl ?_
                  refine ev_gos pp_Cr_reckon 3 (S' := (227, [some (.ref l0), some (.ref l1), some (.int y2), some (.int l3), some (.int l4), some (.int (l5 + (-1 : Int32))), some (.int l6), some (.int q5)], [.int ((l5 + (-1 : Int32)) &&& (7 : Int32)), .ref (l0 + 7), .int q5, .int ((l5 + (-1 : Int32)) &&& (7 : Int32)), .ref (l0 + 7)], (223, kc, ks, pd_H g v))) rfl ?_
                  obtain ⟨hc23, h⟩ := pd_chk h
                  refine ev_iald pp_Cr_reckon rfl (c_cr7 hl0) hc23 ?_
                  refine ev_gos pp_Cr_reckon 1 (S' := (229, [some (.ref l0), some (.ref l1), some (.int y2), some (.int l3), some (.int l4), some (.int (l5 + (-1 : Int32))), some (.int l6), some (.int q5)], [.ref l0, .int (v (l0 + 7) (((l5 + (-1 : Int32)) &&& (7 : Int32)).toNatClampNeg)), .int q5, .int ((l5 + (-1 : Int32)) &&& (7 : Int32)), .ref (l0 + 7)], (223, kc, ks, pd_H g v))) rfl ?_
                  refine ev_get pp_Cr_reckon rfl (c_cr hl0) rfl ?_
                  refine ev_gos pp_Cr_reckon 5 (S' := (239, [some (.ref l0), some (.ref l1), some (.int y2), some (.int l3), some (.int l4), some (.int (l5 + (-1 : Int32))), some (.int l6), some (.int q5)], [.int (((l5 + (-1 : Int32)) + (1 : Int32)) &&& (7 : Int32)), .ref (l0 + 7), .int (v (l0 + 7) (((l5 + (-1 : Int32)) &&& (7 : Int32)).toNatClampNeg)), .int q5, .int ((l5 + (-1 : Int32)) &&& (7 : Int32)), .ref (l0 + 7)], (223, kc, ks, pd_H g v))) rfl ?_
                  obtain ⟨hc24, h⟩ := pd_chk h
                  refine ev_iald pp_Cr_reckon rfl (c_cr7 hl0) hc24 ?_
                  refine ev_gos pp_Cr_reckon 0 (S' := (240, [some (.ref l0), some (.ref l1), some (.int y2), some (.int l3), some (.int l4), some (.int (l5 + (-1 : Int32))), some (.int l6), some (.int q5)], [.int (v (l0 + 7) ((((l5 + (-1 : Int32)) + (1 : Int32)) &&& (7 : Int32)).toNatClampNeg)), .int (v (l0 + 7) (((l5 + (-1 : Int32)) &&& (7 : Int32)).toNatClampNeg)), .int q5, .int ((l5 + (-1 : Int32)) &&& (7 : Int32)), .ref (l0 + 7)], (223, kc, ks, pd_H g v))) rfl ?_
                  refine ev_call pp_Cr_reckon rfl rfl rfl (s_Cr_joined) ?_
                  refine ev_gos pp_Cr_reckon 0 (S' := (243, [some (.ref l0), some (.ref l1), some (.int y2), some (.int l3), some (.int l4), some (.int (l5 + (-1 : Int32))), some (.int l6), some (.int q5)], [.int (d_Cr_joined q5 (v (l0 + 7) (((l5 + (-1 : Int32)) &&& (7 : Int32)).toNatClampNeg)) (v (l0 + 7) ((((l5 + (-1 : Int32)) + (1 : Int32)) &&& (7 : Int32)).toNatClampNeg))), .int ((l5 + (-1 : Int32)) &&& (7 : Int32)), .ref (l0 + 7)], (223, kc, ks, pd_H g v))) rfl ?_
                  obtain ⟨hc26, h⟩ := pd_chk h
                  refine ev_iast pp_Cr_reckon rfl (c_cr7 hl0) hc26 ?_
                  refine ev_gos pp_Cr_reckon 2 (S' := (6, [some (.ref l0), some (.ref l1), some (.int y2), some (.int l3), some (.int l4), some (.int (l5 + (-1 : Int32))), some (.int (l6 + (1 : Int32))), some (.int q5)], [], (223, kc, ks, pd_H g (pd_w v (l0 + 7) (((l5 + (-1 : Int32)) &&& (7 : Int32)).toNatClampNeg) (d_Cr_joined q5 (v (l0 + 7) (((l5 + (-1 : Int32)) &&& (7 : Int32)).toNatClampNeg)) (v (l0 + 7) ((((l5 + (-1 : Int32)) + (1 : Int32)) &&& (7 : Int32)).toNatClampNeg))))))) rfl ?_
                  exact ih _ _ _ _ _ _ _ _ _ _ hl0 hl1 h
def d_Cr_reckon (w : Nat) (l0 : Nat) (l1 : Nat) (l2 : Int32) (l3 : Int32) (l4 : Int32) (v : pd_V) : Option (Int32 × pd_V) :=
  d_Cr_reckon_6 w w l0 l1 l3 l4 (0 : Int32) l2 v
set_option maxRecDepth 100000 in
set_option maxHeartbeats 4000000 in
theorem s_Cr_reckon {w : Nat} {l0 : Nat} {l1 : Nat} {l2 : Int32} {l3 : Int32} {l4 : Int32} {v : pd_V} {q : (Int32 × pd_V)} (hl0 : crw l0) (hl1 : ker l1) (h : d_Cr_reckon w l0 l1 l2 l3 l4 v = some q) : pm_ev (pj_P xs L) (d + 2) 66 (0, [some (.ref l0), some (.ref l1), some (.int l2), some (.int l3), some (.int l4), none, none, none], [], (223, kc, ks, pd_H g v)) (.inl (some (.int q.1)), (223, kc, ks, pd_H g q.2)) := by
  unfold d_Cr_reckon at h
  refine ev_gos pp_Cr_reckon 4 (S' := (6, [some (.ref l0), some (.ref l1), some (.int l2), some (.int l3), some (.int l4), some (.int (0 : Int32)), some (.int l2), none], [], (223, kc, ks, pd_H g v))) rfl ?_
  exact s_Cr_reckon_6 _ _ _ _ _ _ _ _ _ _ _ hl0 hl1 h
theorem pp_Cr_trap {xs : Nat → Int32} {L : Nat} : (pj_P xs L 75).1 = fun S => pm_look tb_Cr_trap S.1 S := rfl
def d_Cr_trap (l0 : Nat) (l1 : Nat) (l2 : Int32) (v : pd_V) : Option pd_V :=
  bif pm_in (l2 &&& (7 : Int32)) 8 then
  some (pd_w (pd_w v (l0 + 6) ((l2 &&& (7 : Int32)).toNatClampNeg) ((v l1 1) + (1 : Int32))) l0 10 (((pd_w v (l0 + 6) ((l2 &&& (7 : Int32)).toNatClampNeg) ((v l1 1) + (1 : Int32))) l0 10) ||| ((1 : Int32) <<< (l2 &&& 31))))
  else none
theorem s_Cr_trap {l0 : Nat} {l1 : Nat} {l2 : Int32} {v : pd_V} {q : pd_V} (hl0 : crw l0) (hl1 : stp l1) (h : d_Cr_trap l0 l1 l2 v = some q) : pm_ev (pj_P xs L) d 75 (0, [some (.ref l0), some (.ref l1), some (.int l2)], [], (223, kc, ks, pd_H g v)) (.inl none, (223, kc, ks, pd_H g q)) := by
  unfold d_Cr_trap at h
  refine ev_gos pp_Cr_trap 1 (S' := (1, [some (.ref l0), some (.ref l1), some (.int l2)], [.ref l0], (223, kc, ks, pd_H g v))) rfl ?_
  refine ev_get pp_Cr_trap rfl (c_cr hl0) rfl ?_
  refine ev_gos pp_Cr_trap 4 (S' := (9, [some (.ref l0), some (.ref l1), some (.int l2)], [.ref l1, .int (l2 &&& (7 : Int32)), .ref (l0 + 6)], (223, kc, ks, pd_H g v))) rfl ?_
  refine ev_get pp_Cr_trap rfl (c_st hl1) rfl ?_
  refine ev_gos pp_Cr_trap 2 (S' := (14, [some (.ref l0), some (.ref l1), some (.int l2)], [.int ((v l1 1) + (1 : Int32)), .int (l2 &&& (7 : Int32)), .ref (l0 + 6)], (223, kc, ks, pd_H g v))) rfl ?_
  obtain ⟨hc1, h⟩ := pd_chk h
  refine ev_iast pp_Cr_trap rfl (c_cr6 hl0) hc1 ?_
  refine ev_gos pp_Cr_trap 2 (S' := (17, [some (.ref l0), some (.ref l1), some (.int l2)], [.ref l0, .ref l0], (223, kc, ks, pd_H g (pd_w v (l0 + 6) ((l2 &&& (7 : Int32)).toNatClampNeg) ((v l1 1) + (1 : Int32)))))) rfl ?_
  refine ev_get pp_Cr_trap rfl (c_cr hl0) rfl ?_
  refine ev_gos pp_Cr_trap 4 (S' := (24, [some (.ref l0), some (.ref l1), some (.int l2)], [.int (((pd_w v (l0 + 6) ((l2 &&& (7 : Int32)).toNatClampNeg) ((v l1 1) + (1 : Int32))) l0 10) ||| ((1 : Int32) <<< (l2 &&& 31))), .ref l0], (223, kc, ks, pd_H g (pd_w v (l0 + 6) ((l2 &&& (7 : Int32)).toNatClampNeg) ((v l1 1) + (1 : Int32)))))) rfl ?_
  refine ev_put pp_Cr_trap rfl (c_cr hl0) rfl rfl rfl ?_
  refine ev_gos pp_Cr_trap 0 (S' := (27, [some (.ref l0), some (.ref l1), some (.int l2)], [], (223, kc, ks, pd_H g (pd_w (pd_w v (l0 + 6) ((l2 &&& (7 : Int32)).toNatClampNeg) ((v l1 1) + (1 : Int32))) l0 10 (((pd_w v (l0 + 6) ((l2 &&& (7 : Int32)).toNatClampNeg) ((v l1 1) + (1 : Int32))) l0 10) ||| ((1 : Int32) <<< (l2 &&& 31))))))) rfl ?_
  cases h
  exact ev_fin pp_Cr_trap rfl
theorem pp_Cr_decide {xs : Nat → Int32} {L : Nat} : (pj_P xs L 65).1 = fun S => pm_look tb_Cr_decide S.1 S := rfl
def d_Cr_decide (w : Nat) (l0 : Nat) (l1 : Nat) (l2 : Nat) (l3 : Int32) (v : pd_V) : Option (Int32 × pd_V) :=
  (d_Cr_reckon w l0 l1 ((pd_w v l0 9 (0 : Int32)) l2 7) ((pd_w v l0 9 (0 : Int32)) l2 8) l3 (pd_w v l0 9 (0 : Int32))).bind fun q1 =>
  bif decide ((q1.2 l0 9) = 0) then
    some (q1.1, q1.2)
  else
    (d_Cr_trap l0 l2 l3 q1.2).bind fun q3 =>
    some ((0 : Int32), q3)
theorem s_Cr_decide {w : Nat} {l0 : Nat} {l1 : Nat} {l2 : Nat} {l3 : Int32} {v : pd_V} {q : (Int32 × pd_V)} (hl0 : crw l0) (hl1 : ker l1) (hl2 : stp l2) (h : d_Cr_decide w l0 l1 l2 l3 v = some q) : pm_ev (pj_P xs L) (d + 3) 65 (0, [some (.ref l0), some (.ref l1), some (.ref l2), some (.int l3), none], [], (223, kc, ks, pd_H g v)) (.inl (some (.int q.1)), (223, kc, ks, pd_H g q.2)) := by
  unfold d_Cr_decide at h
  refine ev_gos pp_Cr_decide 2 (S' := (2, [some (.ref l0), some (.ref l1), some (.ref l2), some (.int l3), none], [.int (0 : Int32), .ref l0], (223, kc, ks, pd_H g v))) rfl ?_
  refine ev_put pp_Cr_decide rfl (c_cr hl0) rfl rfl (pd_fit pd_b0) ?_
  refine ev_gos pp_Cr_decide 3 (S' := (8, [some (.ref l0), some (.ref l1), some (.ref l2), some (.int l3), none], [.ref l2, .ref l1, .ref l0], (223, kc, ks, pd_H g (pd_w v l0 9 (0 : Int32))))) rfl ?_
  refine ev_get pp_Cr_decide rfl (c_st hl2) rfl ?_
  refine ev_gos pp_Cr_decide 1 (S' := (12, [some (.ref l0), some (.ref l1), some (.ref l2), some (.int l3), none], [.ref l2, .int ((pd_w v l0 9 (0 : Int32)) l2 7), .ref l1, .ref l0], (223, kc, ks, pd_H g (pd_w v l0 9 (0 : Int32))))) rfl ?_
  refine ev_get pp_Cr_decide rfl (c_st hl2) rfl ?_
  refine ev_gos pp_Cr_decide 1 (S' := (16, [some (.ref l0), some (.ref l1), some (.ref l2), some (.int l3), none], [.int l3, .int ((pd_w v l0 9 (0 : Int32)) l2 8), .int ((pd_w v l0 9 (0 : Int32)) l2 7), .ref l1, .ref l0], (223, kc, ks, pd_H g (pd_w v l0 9 (0 : Int32))))) rfl ?_
  obtain ⟨q1, hq1, h⟩ := pd_bind h
  refine ev_callv pp_Cr_decide rfl rfl (pd_isa (c_cr hl0)) rfl (s_Cr_reckon hl0 hl1 hq1) ?_
  refine ev_gos pp_Cr_decide 2 (S' := (22, [some (.ref l0), some (.ref l1), some (.ref l2), some (.int l3), some (.int q1.1)], [.ref l0], (223, kc, ks, pd_H g q1.2))) rfl ?_
  refine ev_get pp_Cr_decide rfl (c_cr hl0) rfl ?_
  refine ev_gos pp_Cr_decide 0 (S' := (25, [some (.ref l0), some (.ref l1), some (.ref l2), some (.int l3), some (.int q1.1)], [.int (q1.2 l0 9)], (223, kc, ks, pd_H g q1.2))) rfl ?_
  refine ev_gos pp_Cr_decide 1 (S' := (bif decide ((q1.2 l0 9) = 0) then 36 else 28, [some (.ref l0), some (.ref l1), some (.ref l2), some (.int l3), some (.int q1.1)], [], (223, kc, ks, pd_H g q1.2))) rfl ?_
  rcases pd_cases h with ⟨hb2, h⟩ | ⟨hb2, h⟩
  · rw [hb2]
    refine ev_gos pp_Cr_decide 1 (S' := (38, [some (.ref l0), some (.ref l1), some (.ref l2), some (.int l3), some (.int q1.1)], [.int q1.1], (223, kc, ks, pd_H g q1.2))) rfl ?_
    cases h
    exact ev_fin pp_Cr_decide rfl
  · rw [hb2]
    refine ev_gos pp_Cr_decide 3 (S' := (31, [some (.ref l0), some (.ref l1), some (.ref l2), some (.int l3), some (.int q1.1)], [.int l3, .ref l2, .ref l0], (223, kc, ks, pd_H g q1.2))) rfl ?_
    obtain ⟨q3, hq3, h⟩ := pd_bind h
    refine ev_callv pp_Cr_decide rfl rfl (pd_isa (c_cr hl0)) rfl (s_Cr_trap hl0 hl2 hq3) ?_
    refine ev_gos pp_Cr_decide 1 (S' := (35, [some (.ref l0), some (.ref l1), some (.ref l2), some (.int l3), some (.int q1.1)], [.int (0 : Int32)], (223, kc, ks, pd_H g q3))) rfl ?_
    cases h
    exact ev_fin pp_Cr_decide rfl
theorem pp_To_part {xs : Nat → Int32} {L : Nat} : (pj_P xs L 64).1 = fun S => pm_look tb_To_part S.1 S := rfl
def d_To_part_5 (w : Nat) (f : Nat) (l1 : Nat) (l2 : Nat) (l3 : Int32) (l4 : Int32) (v : pd_V) : Option pd_V := match f with
  | 0 => none
  | f + 1 =>
    bif decide ((8 : Int32) ≤ l4) then
      bif pm_in ((v l2 2) &&& (3 : Int32)) 4 then
      bif pm_in ((v l2 2) &&& (3 : Int32)) 4 then
      bif pm_in ((v l2 2) &&& (3 : Int32)) 4 then
      some (pd_w (pd_w (pd_w v 184 (((v l2 2) &&& (3 : Int32)).toNatClampNeg) ((v 184 (((v l2 2) &&& (3 : Int32)).toNatClampNeg)) ||| (v 173 3))) 185 (((v l2 2) &&& (3 : Int32)).toNatClampNeg) ((v 173 3) &&& (l3 ^^^ (-1 : Int32)))) 173 3 l3)
      else none
      else none
      else none
    else
      bif decide ((d_De_isIn (v 173 3) l4) = 0) then
        d_To_part_5 w f l1 l2 l3 (l4 + (1 : Int32)) v
      else
        (d_Cr_decide w 174 l1 l2 l4 v).bind fun q7 =>
        bif decide (q7.1 = 0) then
          d_To_part_5 w f l1 l2 l3 (l4 + (1 : Int32)) q7.2
        else
          d_To_part_5 w f l1 l2 (l3 ||| ((1 : Int32) <<< (l4 &&& 31))) (l4 + (1 : Int32)) q7.2
theorem s_To_part_5 {w : Nat} : ∀ (f : Nat) (l1 : Nat) (l2 : Nat) (l3 : Int32) (l4 : Int32) (v : pd_V)  (q : pd_V) (hl1 : ker l1) (hl2 : stp l2), d_To_part_5 w f l1 l2 l3 l4 v = some q → pm_ev (pj_P xs L) (d + 4) 64 (5, [some (.ref 173), some (.ref l1), some (.ref l2), some (.int l3), some (.int l4)], [], (223, kc, ks, pd_H g v)) (.inl none, (223, kc, ks, pd_H g q)) := by
  intro f
  induction f with
  | zero => intro l1 l2 l3 l4 v q hl1 hl2 h; exact nomatch (show (none : Option pd_V) = some q from h)
  | succ f ih =>
    intro l1 l2 l3 l4 v q hl1 hl2 h
    rw [d_To_part_5] at h
    refine ev_gos pp_To_part 2 (S' := (9, [some (.ref 173), some (.ref l1), some (.ref l2), some (.int l3), some (.int l4)], [.int (8 : Int32), .int l4], (223, kc, ks, pd_H g v))) rfl ?_
    refine ev_gos pp_To_part 1 (S' := (bif decide ((8 : Int32) ≤ l4) then 51 else 12, [some (.ref 173), some (.ref l1), some (.ref l2), some (.int l3), some (.int l4)], [], (223, kc, ks, pd_H g v))) rfl ?_
    rcases pd_cases h with ⟨hb1, h⟩ | ⟨hb1, h⟩
    · rw [hb1]
      refine ev_gos pp_To_part 1 (S' := (52, [some (.ref 173), some (.ref l1), some (.ref l2), some (.int l3), some (.int l4)], [.ref l2], (223, kc, ks, pd_H g v))) rfl ?_
      refine ev_get pp_To_part rfl (c_st hl2) rfl ?_
      refine ev_gos pp_To_part 7 (S' := (66, [some (.ref 173), some (.ref l1), some (.ref l2), some (.int l3), some (.int ((v l2 2) &&& (3 : Int32)))], [.int ((v l2 2) &&& (3 : Int32)), .ref 184, .int ((v l2 2) &&& (3 : Int32)), .ref 184], (223, kc, ks, pd_H g v))) rfl ?_
      obtain ⟨hc2, h⟩ := pd_chk h
      refine ev_iald pp_To_part rfl (fun _ => rfl) hc2 ?_
      refine ev_gos pp_To_part 3 (S' := (72, [some (.ref 173), some (.ref l1), some (.ref l2), some (.int l3), some (.int ((v l2 2) &&& (3 : Int32)))], [.int ((v 184 (((v l2 2) &&& (3 : Int32)).toNatClampNeg)) ||| (v 173 3)), .int ((v l2 2) &&& (3 : Int32)), .ref 184], (223, kc, ks, pd_H g v))) rfl ?_
      obtain ⟨hc3, h⟩ := pd_chk h
      refine ev_iast pp_To_part rfl (fun _ => rfl) hc3 ?_
      refine ev_gos pp_To_part 9 (S' := (87, [some (.ref 173), some (.ref l1), some (.ref l2), some (.int l3), some (.int ((v l2 2) &&& (3 : Int32)))], [.int ((v 173 3) &&& (l3 ^^^ (-1 : Int32))), .int ((v l2 2) &&& (3 : Int32)), .ref 185], (223, kc, ks, pd_H g (pd_w v 184 (((v l2 2) &&& (3 : Int32)).toNatClampNeg) ((v 184 (((v l2 2) &&& (3 : Int32)).toNatClampNeg)) ||| (v 173 3)))))) rfl ?_
      obtain ⟨hc4, h⟩ := pd_chk h
      refine ev_iast pp_To_part rfl (fun _ => rfl) hc4 ?_
      refine ev_gos pp_To_part 2 (S' := (90, [some (.ref 173), some (.ref l1), some (.ref l2), some (.int l3), some (.int ((v l2 2) &&& (3 : Int32)))], [.int l3, .ref 173], (223, kc, ks, pd_H g (pd_w (pd_w v 184 (((v l2 2) &&& (3 : Int32)).toNatClampNeg) ((v 184 (((v l2 2) &&& (3 : Int32)).toNatClampNeg)) ||| (v 173 3))) 185 (((v l2 2) &&& (3 : Int32)).toNatClampNeg) ((v 173 3) &&& (l3 ^^^ (-1 : Int32))))))) rfl ?_
      refine ev_put pp_To_part rfl (fun _ => rfl) rfl rfl rfl ?_
      refine ev_gos pp_To_part 0 (S' := (93, [some (.ref 173), some (.ref l1), some (.ref l2), some (.int l3), some (.int ((v l2 2) &&& (3 : Int32)))], [], (223, kc, ks, pd_H g (pd_w (pd_w (pd_w v 184 (((v l2 2) &&& (3 : Int32)).toNatClampNeg) ((v 184 (((v l2 2) &&& (3 : Int32)).toNatClampNeg)) ||| (v 173 3))) 185 (((v l2 2) &&& (3 : Int32)).toNatClampNeg) ((v 173 3) &&& (l3 ^^^ (-1 : Int32)))) 173 3 l3)))) rfl ?_
      cases h
      exact ev_fin pp_To_part rfl
    · rw [hb1]
      refine ev_gos pp_To_part 3 (S' := (18, [some (.ref 173), some (.ref l1), some (.ref l2), some (.int l3), some (.int l4)], [.int l4, .int (v 173 3)], (223, kc, ks, pd_H g v))) rfl ?_
      refine ev_call pp_To_part rfl rfl rfl (s_De_isIn) ?_
      refine ev_gos pp_To_part 0 (S' := (21, [some (.ref 173), some (.ref l1), some (.ref l2), some (.int l3), some (.int l4)], [.int (d_De_isIn (v 173 3) l4)], (223, kc, ks, pd_H g v))) rfl ?_
      refine ev_gos pp_To_part 1 (S' := (bif decide ((d_De_isIn (v 173 3) l4) = 0) then 45 else 24, [some (.ref 173), some (.ref l1), some (.ref l2), some (.int l3), some (.int l4)], [], (223, kc, ks, pd_H g v))) rfl ?_
      rcases pd_cases h with ⟨hb6, h⟩ | ⟨hb6, h⟩
      · rw [hb6]
        refine ev_gos pp_To_part 2 (S' := (5, [some (.ref 173), some (.ref l1), some (.ref l2), some (.int l3), some (.int (l4 + (1 : Int32)))], [], (223, kc, ks, pd_H g v))) rfl ?_
        exact ih _ _ _ _ _ _ hl1 hl2 h
      · rw [hb6]
        refine ev_gos pp_To_part 5 (S' := (32, [some (.ref 173), some (.ref l1), some (.ref l2), some (.int l3), some (.int l4)], [.int l4, .ref l2, .ref l1, .ref 174], (223, kc, ks, pd_H g v))) rfl ?_
        obtain ⟨q7, hq7, h⟩ := pd_bind h
        refine ev_callv pp_To_part rfl rfl (pd_isa (c_cr crw_174)) rfl (s_Cr_decide crw_174 hl1 hl2 hq7) ?_
        refine ev_gos pp_To_part 0 (S' := (35, [some (.ref 173), some (.ref l1), some (.ref l2), some (.int l3), some (.int l4)], [.int q7.1], (223, kc, ks, pd_H g q7.2))) rfl ?_
        refine ev_gos pp_To_part 1 (S' := (bif decide (q7.1 = 0) then 45 else 38, [some (.ref 173), some (.ref l1), some (.ref l2), some (.int l3), some (.int l4)], [], (223, kc, ks, pd_H g q7.2))) rfl ?_
        rcases pd_cases h with ⟨hb8, h⟩ | ⟨hb8, h⟩
        · rw [hb8]
          refine ev_gos pp_To_part 2 (S' := (5, [some (.ref 173), some (.ref l1), some (.ref l2), some (.int l3), some (.int (l4 + (1 : Int32)))], [], (223, kc, ks, pd_H g q7.2))) rfl ?_
          exact ih _ _ _ _ _ _ hl1 hl2 h
        · rw [hb8]
          refine ev_gos pp_To_part 8 (S' := (5, [some (.ref 173), some (.ref l1), some (.ref l2), some (.int (l3 ||| ((1 : Int32) <<< (l4 &&& 31)))), some (.int (l4 + (1 : Int32)))], [], (223, kc, ks, pd_H g q7.2))) rfl ?_
          exact ih _ _ _ _ _ _ hl1 hl2 h
def d_To_part (w : Nat) (l1 : Nat) (l2 : Nat) (v : pd_V) : Option pd_V :=
  d_To_part_5 w w l1 l2 (0 : Int32) (0 : Int32) v
theorem s_To_part {w : Nat} {l1 : Nat} {l2 : Nat} {v : pd_V} {q : pd_V} (hl1 : ker l1) (hl2 : stp l2) (h : d_To_part w l1 l2 v = some q) : pm_ev (pj_P xs L) (d + 4) 64 (0, [some (.ref 173), some (.ref l1), some (.ref l2), none, none], [], (223, kc, ks, pd_H g v)) (.inl none, (223, kc, ks, pd_H g q)) := by
  unfold d_To_part at h
  refine ev_gos pp_To_part 4 (S' := (5, [some (.ref 173), some (.ref l1), some (.ref l2), some (.int (0 : Int32)), some (.int (0 : Int32))], [], (223, kc, ks, pd_H g v))) rfl ?_
  exact s_To_part_5 _ _ _ _ _ _ _ hl1 hl2 h
theorem pp_Mat_floorMod {xs : Nat → Int32} {L : Nat} : (pj_P xs L 77).1 = fun S => pm_look tb_Mat_floorMod S.1 S := rfl
def d_Mat_floorMod (l0 : Int32) (l1 : Int32) (v : pd_V) : Option Int32 :=
  bif !(decide (l1 = 0)) then
  bif decide (0 ≤ (l0 ^^^ l1)) then
    some (l0 - l0 / l1 * l1)
  else
    bif decide ((l0 - l0 / l1 * l1) = 0) then
      some (l0 - l0 / l1 * l1)
    else
      some ((l0 - l0 / l1 * l1) + l1)
  else none
theorem s_Mat_floorMod {l0 : Int32} {l1 : Int32} {v : pd_V} {q : Int32}  (h : d_Mat_floorMod l0 l1 v = some q) : pm_ev (pj_P xs L) d 77 (0, [some (.int l0), some (.int l1), none], [], (223, kc, ks, pd_H g v)) (.inl (some (.int q)), (223, kc, ks, pd_H g v)) := by
  unfold d_Mat_floorMod at h
  refine ev_gos pp_Mat_floorMod 2 (S' := (2, [some (.int l0), some (.int l1), none], [.int l1, .int l0], (223, kc, ks, pd_H g v))) rfl ?_
  obtain ⟨hc1, h⟩ := pd_chk h
  refine ev_irem pp_Mat_floorMod rfl hc1 ?_
  refine ev_gos pp_Mat_floorMod 4 (S' := (7, [some (.int l0), some (.int l1), some (.int (l0 - l0 / l1 * l1))], [.int (l0 ^^^ l1)], (223, kc, ks, pd_H g v))) rfl ?_
  refine ev_gos pp_Mat_floorMod 1 (S' := (bif decide (0 ≤ (l0 ^^^ l1)) then 18 else 10, [some (.int l0), some (.int l1), some (.int (l0 - l0 / l1 * l1))], [], (223, kc, ks, pd_H g v))) rfl ?_
  rcases pd_cases h with ⟨hb2, h⟩ | ⟨hb2, h⟩
  · rw [hb2]
    refine ev_gos pp_Mat_floorMod 1 (S' := (19, [some (.int l0), some (.int l1), some (.int (l0 - l0 / l1 * l1))], [.int (l0 - l0 / l1 * l1)], (223, kc, ks, pd_H g v))) rfl ?_
    cases h
    exact ev_fin pp_Mat_floorMod rfl
  · rw [hb2]
    refine ev_gos pp_Mat_floorMod 1 (S' := (11, [some (.int l0), some (.int l1), some (.int (l0 - l0 / l1 * l1))], [.int (l0 - l0 / l1 * l1)], (223, kc, ks, pd_H g v))) rfl ?_
    refine ev_gos pp_Mat_floorMod 1 (S' := (bif decide ((l0 - l0 / l1 * l1) = 0) then 18 else 14, [some (.int l0), some (.int l1), some (.int (l0 - l0 / l1 * l1))], [], (223, kc, ks, pd_H g v))) rfl ?_
    rcases pd_cases h with ⟨hb3, h⟩ | ⟨hb3, h⟩
    · rw [hb3]
      refine ev_gos pp_Mat_floorMod 1 (S' := (19, [some (.int l0), some (.int l1), some (.int (l0 - l0 / l1 * l1))], [.int (l0 - l0 / l1 * l1)], (223, kc, ks, pd_H g v))) rfl ?_
      cases h
      exact ev_fin pp_Mat_floorMod rfl
    · rw [hb3]
      refine ev_gos pp_Mat_floorMod 3 (S' := (17, [some (.int l0), some (.int l1), some (.int (l0 - l0 / l1 * l1))], [.int ((l0 - l0 / l1 * l1) + l1)], (223, kc, ks, pd_H g v))) rfl ?_
      cases h
      exact ev_fin pp_Mat_floorMod rfl
theorem pp_Cr_exchange {xs : Nat → Int32} {L : Nat} : (pj_P xs L 76).1 = fun S => pm_look tb_Cr_exchange S.1 S := rfl
def d_Cr_exchange_118 (w : Nat) (f : Nat) (l0 : Nat) (l2 : Nat) (l4 : Int32) (l5 : Int32) (v : pd_V) : Option pd_V := match f with
  | 0 => none
  | f + 1 =>
    bif decide ((8 : Int32) ≤ l5) then
      some v
    else
      bif decide ((d_De_isIn l4 l5) = 0) then
        d_Cr_exchange_118 w f l0 l2 l4 (l5 + (1 : Int32)) v
      else
        bif pm_in l5 8 then
        bif pm_in (d_De_slot l5 (v l2 5)) 64 then
        d_Cr_exchange_118 w f l0 l2 l4 (l5 + (1 : Int32)) (pd_w v (l0 + 2) ((d_De_slot l5 (v l2 5)).toNatClampNeg) (v (l0 + 9) l5.toNatClampNeg))
        else none
        else none
theorem s_Cr_exchange_118 {w : Nat} : ∀ (f : Nat) (l0 : Nat) (l2 : Nat) (l4 : Int32) (l5 : Int32) (v : pd_V) (y1 : Nat) (y3 : Int32) (y6 : Option Value) (q : pd_V) (hl0 : crw l0) (hl2 : stp l2), d_Cr_exchange_118 w f l0 l2 l4 l5 v = some q → pm_ev (pj_P xs L) (d + 4) 76 (118, [some (.ref l0), some (.ref y1), some (.ref l2), some (.int y3), some (.int l4), some (.int l5), y6], [], (223, kc, ks, pd_H g v)) (.inl none, (223, kc, ks, pd_H g q)) := by
  intro f
  induction f with
  | zero => intro l0 l2 l4 l5 v y1 y3 y6 q hl0 hl2 h; exact nomatch (show (none : Option pd_V) = some q from h)
  | succ f ih =>
    intro l0 l2 l4 l5 v y1 y3 y6 q hl0 hl2 h
    rw [d_Cr_exchange_118] at h
    refine ev_gos pp_Cr_exchange 2 (S' := (122, [some (.ref l0), some (.ref y1), some (.ref l2), some (.int y3), some (.int l4), some (.int l5), y6], [.int (8 : Int32), .int l5], (223, kc, ks, pd_H g v))) rfl ?_
    refine ev_gos pp_Cr_exchange 1 (S' := (bif decide ((8 : Int32) ≤ l5) then 162 else 125, [some (.ref l0), some (.ref y1), some (.ref l2), some (.int y3), some (.int l4), some (.int l5), y6], [], (223, kc, ks, pd_H g v))) rfl ?_
    rcases pd_cases h with ⟨hb1, h⟩ | ⟨hb1, h⟩
    · rw [hb1]
      refine ev_gos pp_Cr_exchange 0 (S' := (162, [some (.ref l0), some (.ref y1), some (.ref l2), some (.int y3), some (.int l4), some (.int l5), y6], [], (223, kc, ks, pd_H g v))) rfl ?_
      cases h
      exact ev_fin pp_Cr_exchange rfl
    · rw [hb1]
      refine ev_gos pp_Cr_exchange 2 (S' := (129, [some (.ref l0), some (.ref y1), some (.ref l2), some (.int y3), some (.int l4), some (.int l5), y6], [.int l5, .int l4], (223, kc, ks, pd_H g v))) rfl ?_
      refine ev_call pp_Cr_exchange rfl rfl rfl (s_De_isIn) ?_
      refine ev_gos pp_Cr_exchange 0 (S' := (132, [some (.ref l0), some (.ref y1), some (.ref l2), some (.int y3), some (.int l4), some (.int l5), y6], [.int (d_De_isIn l4 l5)], (223, kc, ks, pd_H g v))) rfl ?_
      refine ev_gos pp_Cr_exchange 1 (S' := (bif decide ((d_De_isIn l4 l5) = 0) then 156 else 135, [some (.ref l0), some (.ref y1), some (.ref l2), some (.int y3), some (.int l4), some (.int l5), y6], [], (223, kc, ks, pd_H g v))) rfl ?_
      rcases pd_cases h with ⟨hb3, h⟩ | ⟨hb3, h⟩
      · rw [hb3]
        refine ev_gos pp_Cr_exchange 2 (S' := (118, [some (.ref l0), some (.ref y1), some (.ref l2), some (.int y3), some (.int l4), some (.int (l5 + (1 : Int32))), y6], [], (223, kc, ks, pd_H g v))) rfl ?_
        exact ih _ _ _ _ _ _ _ _ _ hl0 hl2 h
      · rw [hb3]
        refine ev_gos pp_Cr_exchange 1 (S' := (136, [some (.ref l0), some (.ref y1), some (.ref l2), some (.int y3), some (.int l4), some (.int l5), y6], [.ref l0], (223, kc, ks, pd_H g v))) rfl ?_
        refine ev_get pp_Cr_exchange rfl (c_cr hl0) rfl ?_
        refine ev_gos pp_Cr_exchange 2 (S' := (142, [some (.ref l0), some (.ref y1), some (.ref l2), some (.int y3), some (.int l4), some (.int l5), y6], [.ref l2, .int l5, .ref (l0 + 2)], (223, kc, ks, pd_H g v))) rfl ?_
        refine ev_get pp_Cr_exchange rfl (c_st hl2) rfl ?_
        refine ev_gos pp_Cr_exchange 0 (S' := (145, [some (.ref l0), some (.ref y1), some (.ref l2), some (.int y3), some (.int l4), some (.int l5), y6], [.int (v l2 5), .int l5, .ref (l0 + 2)], (223, kc, ks, pd_H g v))) rfl ?_
        refine ev_call pp_Cr_exchange rfl rfl rfl (s_De_slot) ?_
        refine ev_gos pp_Cr_exchange 1 (S' := (149, [some (.ref l0), some (.ref y1), some (.ref l2), some (.int y3), some (.int l4), some (.int l5), y6], [.ref l0, .int (d_De_slot l5 (v l2 5)), .ref (l0 + 2)], (223, kc, ks, pd_H g v))) rfl ?_
        refine ev_get pp_Cr_exchange rfl (c_cr hl0) rfl ?_
        refine ev_gos pp_Cr_exchange 1 (S' := (154, [some (.ref l0), some (.ref y1), some (.ref l2), some (.int y3), some (.int l4), some (.int l5), y6], [.int l5, .ref (l0 + 9), .int (d_De_slot l5 (v l2 5)), .ref (l0 + 2)], (223, kc, ks, pd_H g v))) rfl ?_
        obtain ⟨hc5, h⟩ := pd_chk h
        refine ev_iald pp_Cr_exchange rfl (c_cr9 hl0) hc5 ?_
        refine ev_gos pp_Cr_exchange 0 (S' := (155, [some (.ref l0), some (.ref y1), some (.ref l2), some (.int y3), some (.int l4), some (.int l5), y6], [.int (v (l0 + 9) l5.toNatClampNeg), .int (d_De_slot l5 (v l2 5)), .ref (l0 + 2)], (223, kc, ks, pd_H g v))) rfl ?_
        obtain ⟨hc6, h⟩ := pd_chk h
        refine ev_iast pp_Cr_exchange rfl (c_cr2 hl0) hc6 ?_
        refine ev_gos pp_Cr_exchange 2 (S' := (118, [some (.ref l0), some (.ref y1), some (.ref l2), some (.int y3), some (.int l4), some (.int (l5 + (1 : Int32))), y6], [], (223, kc, ks, pd_H g (pd_w v (l0 + 2) ((d_De_slot l5 (v l2 5)).toNatClampNeg) (v (l0 + 9) l5.toNatClampNeg))))) rfl ?_
        exact ih _ _ _ _ _ _ _ _ _ hl0 hl2 h
def d_Cr_exchange_58 (w : Nat) (f : Nat) (l0 : Nat) (l2 : Nat) (l4 : Int32) (l5 : Int32) (v : pd_V) : Option pd_V := match f with
  | 0 => none
  | f + 1 =>
    bif decide ((8 : Int32) ≤ l5) then
      d_Cr_exchange_118 w w l0 l2 l4 (0 : Int32) v
    else
      bif pm_in l5 8 then
      bif decide ((d_De_isIn l4 (v (l0 + 8) l5.toNatClampNeg)) = 0) then
        bif pm_in l5 8 then
        d_Cr_exchange_58 w f l0 l2 l4 (l5 + (1 : Int32)) (pd_w v (l0 + 9) l5.toNatClampNeg (0 : Int32))
        else none
      else
        bif pm_in (d_De_slot (v (l0 + 8) l5.toNatClampNeg) (v l2 6)) 64 then
        bif pm_in l5 8 then
        d_Cr_exchange_58 w f l0 l2 l4 (l5 + (1 : Int32)) (pd_w v (l0 + 9) l5.toNatClampNeg (v (l0 + 2) ((d_De_slot (v (l0 + 8) l5.toNatClampNeg) (v l2 6)).toNatClampNeg)))
        else none
        else none
      else none
theorem s_Cr_exchange_58 {w : Nat} : ∀ (f : Nat) (l0 : Nat) (l2 : Nat) (l4 : Int32) (l5 : Int32) (v : pd_V) (y1 : Nat) (y3 : Int32) (y6 : Option Value) (q : pd_V) (hl0 : crw l0) (hl2 : stp l2), d_Cr_exchange_58 w f l0 l2 l4 l5 v = some q → pm_ev (pj_P xs L) (d + 4) 76 (58, [some (.ref l0), some (.ref y1), some (.ref l2), some (.int y3), some (.int l4), some (.int l5), y6], [], (223, kc, ks, pd_H g v)) (.inl none, (223, kc, ks, pd_H g q)) := by
  intro f
  induction f with
  | zero => intro l0 l2 l4 l5 v y1 y3 y6 q hl0 hl2 h; exact nomatch (show (none : Option pd_V) = some q from h)
  | succ f ih =>
    intro l0 l2 l4 l5 v y1 y3 y6 q hl0 hl2 h
    rw [d_Cr_exchange_58] at h
    refine ev_gos pp_Cr_exchange 2 (S' := (62, [some (.ref l0), some (.ref y1), some (.ref l2), some (.int y3), some (.int l4), some (.int l5), y6], [.int (8 : Int32), .int l5], (223, kc, ks, pd_H g v))) rfl ?_
    refine ev_gos pp_Cr_exchange 1 (S' := (bif decide ((8 : Int32) ≤ l5) then 115 else 65, [some (.ref l0), some (.ref y1), some (.ref l2), some (.int y3), some (.int l4), some (.int l5), y6], [], (223, kc, ks, pd_H g v))) rfl ?_
    rcases pd_cases h with ⟨hb1, h⟩ | ⟨hb1, h⟩
    · rw [hb1]
      refine ev_gos pp_Cr_exchange 2 (S' := (118, [some (.ref l0), some (.ref y1), some (.ref l2), some (.int y3), some (.int l4), some (.int (0 : Int32)), y6], [], (223, kc, ks, pd_H g v))) rfl ?_
      exact s_Cr_exchange_118 _ _ _ _ _ _ _ _ _ _ hl0 hl2 h
    · rw [hb1]
      refine ev_gos pp_Cr_exchange 1 (S' := (66, [some (.ref l0), some (.ref y1), some (.ref l2), some (.int y3), some (.int l4), some (.int l5), y6], [.ref l0], (223, kc, ks, pd_H g v))) rfl ?_
      refine ev_get pp_Cr_exchange rfl (c_cr hl0) rfl ?_
      refine ev_gos pp_Cr_exchange 1 (S' := (71, [some (.ref l0), some (.ref y1), some (.ref l2), some (.int y3), some (.int l4), some (.int l5), y6], [.int l5, .ref (l0 + 8)], (223, kc, ks, pd_H g v))) rfl ?_
      obtain ⟨hc2, h⟩ := pd_chk h
      refine ev_iald pp_Cr_exchange rfl (c_cr8 hl0) hc2 ?_
      refine ev_gos pp_Cr_exchange 2 (S' := (75, [some (.ref l0), some (.ref y1), some (.ref l2), some (.int y3), some (.int l4), some (.int l5), some (.int (v (l0 + 8) l5.toNatClampNeg))], [.ref l0], (223, kc, ks, pd_H g v))) rfl ?_
      refine ev_get pp_Cr_exchange rfl (c_cr hl0) rfl ?_
      refine ev_gos pp_Cr_exchange 3 (S' := (84, [some (.ref l0), some (.ref y1), some (.ref l2), some (.int y3), some (.int l4), some (.int l5), some (.int (v (l0 + 8) l5.toNatClampNeg))], [.int (v (l0 + 8) l5.toNatClampNeg), .int l4, .int l5, .ref (l0 + 9)], (223, kc, ks, pd_H g v))) rfl ?_
      refine ev_call pp_Cr_exchange rfl rfl rfl (s_De_isIn) ?_
      refine ev_gos pp_Cr_exchange 0 (S' := (87, [some (.ref l0), some (.ref y1), some (.ref l2), some (.int y3), some (.int l4), some (.int l5), some (.int (v (l0 + 8) l5.toNatClampNeg))], [.int (d_De_isIn l4 (v (l0 + 8) l5.toNatClampNeg)), .int l5, .ref (l0 + 9)], (223, kc, ks, pd_H g v))) rfl ?_
      refine ev_gos pp_Cr_exchange 1 (S' := (bif decide ((d_De_isIn l4 (v (l0 + 8) l5.toNatClampNeg)) = 0) then 107 else 90, [some (.ref l0), some (.ref y1), some (.ref l2), some (.int y3), some (.int l4), some (.int l5), some (.int (v (l0 + 8) l5.toNatClampNeg))], [.int l5, .ref (l0 + 9)], (223, kc, ks, pd_H g v))) rfl ?_
      rcases pd_cases h with ⟨hb4, h⟩ | ⟨hb4, h⟩
      · rw [hb4]
        refine ev_gos pp_Cr_exchange 1 (S' := (108, [some (.ref l0), some (.ref y1), some (.ref l2), some (.int y3), some (.int l4), some (.int l5), some (.int (v (l0 + 8) l5.toNatClampNeg))], [.int (0 : Int32), .int l5, .ref (l0 + 9)], (223, kc, ks, pd_H g v))) rfl ?_
        obtain ⟨hc5, h⟩ := pd_chk h
        refine ev_iast pp_Cr_exchange rfl (c_cr9 hl0) hc5 ?_
        refine ev_gos pp_Cr_exchange 2 (S' := (58, [some (.ref l0), some (.ref y1), some (.ref l2), some (.int y3), some (.int l4), some (.int (l5 + (1 : Int32))), some (.int (v (l0 + 8) l5.toNatClampNeg))], [], (223, kc, ks, pd_H g (pd_w v (l0 + 9) l5.toNatClampNeg (0 : Int32))))) rfl ?_
        exact ih _ _ _ _ _ _ _ _ _ hl0 hl2 h
      · rw [hb4]
        refine ev_gos pp_Cr_exchange 1 (S' := (91, [some (.ref l0), some (.ref y1), some (.ref l2), some (.int y3), some (.int l4), some (.int l5), some (.int (v (l0 + 8) l5.toNatClampNeg))], [.ref l0, .int l5, .ref (l0 + 9)], (223, kc, ks, pd_H g v))) rfl ?_
        refine ev_get pp_Cr_exchange rfl (c_cr hl0) rfl ?_
        refine ev_gos pp_Cr_exchange 2 (S' := (97, [some (.ref l0), some (.ref y1), some (.ref l2), some (.int y3), some (.int l4), some (.int l5), some (.int (v (l0 + 8) l5.toNatClampNeg))], [.ref l2, .int (v (l0 + 8) l5.toNatClampNeg), .ref (l0 + 2), .int l5, .ref (l0 + 9)], (223, kc, ks, pd_H g v))) rfl ?_
        refine ev_get pp_Cr_exchange rfl (c_st hl2) rfl ?_
        refine ev_gos pp_Cr_exchange 0 (S' := (100, [some (.ref l0), some (.ref y1), some (.ref l2), some (.int y3), some (.int l4), some (.int l5), some (.int (v (l0 + 8) l5.toNatClampNeg))], [.int (v l2 6), .int (v (l0 + 8) l5.toNatClampNeg), .ref (l0 + 2), .int l5, .ref (l0 + 9)], (223, kc, ks, pd_H g v))) rfl ?_
        refine ev_call pp_Cr_exchange rfl rfl rfl (s_De_slot) ?_
        refine ev_gos pp_Cr_exchange 0 (S' := (103, [some (.ref l0), some (.ref y1), some (.ref l2), some (.int y3), some (.int l4), some (.int l5), some (.int (v (l0 + 8) l5.toNatClampNeg))], [.int (d_De_slot (v (l0 + 8) l5.toNatClampNeg) (v l2 6)), .ref (l0 + 2), .int l5, .ref (l0 + 9)], (223, kc, ks, pd_H g v))) rfl ?_
        obtain ⟨hc7, h⟩ := pd_chk h
        refine ev_iald pp_Cr_exchange rfl (c_cr2 hl0) hc7 ?_
        refine ev_gos pp_Cr_exchange 1 (S' := (108, [some (.ref l0), some (.ref y1), some (.ref l2), some (.int y3), some (.int l4), some (.int l5), some (.int (v (l0 + 8) l5.toNatClampNeg))], [.int (v (l0 + 2) ((d_De_slot (v (l0 + 8) l5.toNatClampNeg) (v l2 6)).toNatClampNeg)), .int l5, .ref (l0 + 9)], (223, kc, ks, pd_H g v))) rfl ?_
        obtain ⟨hc8, h⟩ := pd_chk h
        refine ev_iast pp_Cr_exchange rfl (c_cr9 hl0) hc8 ?_
        refine ev_gos pp_Cr_exchange 2 (S' := (58, [some (.ref l0), some (.ref y1), some (.ref l2), some (.int y3), some (.int l4), some (.int (l5 + (1 : Int32))), some (.int (v (l0 + 8) l5.toNatClampNeg))], [], (223, kc, ks, pd_H g (pd_w v (l0 + 9) l5.toNatClampNeg (v (l0 + 2) ((d_De_slot (v (l0 + 8) l5.toNatClampNeg) (v l2 6)).toNatClampNeg)))))) rfl ?_
        exact ih _ _ _ _ _ _ _ _ _ hl0 hl2 h
def d_Cr_exchange_3 (w : Nat) (f : Nat) (l0 : Nat) (l1 : Nat) (l2 : Nat) (l3 : Int32) (l4 : Int32) (v : pd_V) : Option pd_V := match f with
  | 0 => none
  | f + 1 =>
    bif decide ((8 : Int32) ≤ l4) then
      d_Cr_exchange_58 w w l0 l2 (l3 &&& ((v l0 10) ^^^ (-1 : Int32))) (0 : Int32) v
    else
      bif decide ((d_De_isIn l3 l4) = 0) then
        d_Cr_exchange_3 w f l0 l1 l2 l3 (l4 + (1 : Int32)) v
      else
        (d_Cr_decide w l0 l1 l2 l4 v).bind fun q4 =>
        (d_Mat_floorMod q4.1 (8 : Int32) q4.2).bind fun q5 =>
        bif pm_in l4 8 then
        d_Cr_exchange_3 w f l0 l1 l2 l3 (l4 + (1 : Int32)) (pd_w q4.2 (l0 + 8) l4.toNatClampNeg q5)
        else none
theorem s_Cr_exchange_3 {w : Nat} : ∀ (f : Nat) (l0 : Nat) (l1 : Nat) (l2 : Nat) (l3 : Int32) (l4 : Int32) (v : pd_V) (y5 : Option Value) (y6 : Option Value) (q : pd_V) (hl0 : crw l0) (hl1 : ker l1) (hl2 : stp l2), d_Cr_exchange_3 w f l0 l1 l2 l3 l4 v = some q → pm_ev (pj_P xs L) (d + 4) 76 (3, [some (.ref l0), some (.ref l1), some (.ref l2), some (.int l3), some (.int l4), y5, y6], [], (223, kc, ks, pd_H g v)) (.inl none, (223, kc, ks, pd_H g q)) := by
  intro f
  induction f with
  | zero => intro l0 l1 l2 l3 l4 v y5 y6 q hl0 hl1 hl2 h; exact nomatch (show (none : Option pd_V) = some q from h)
  | succ f ih =>
    intro l0 l1 l2 l3 l4 v y5 y6 q hl0 hl1 hl2 h
    rw [d_Cr_exchange_3] at h
    refine ev_gos pp_Cr_exchange 2 (S' := (7, [some (.ref l0), some (.ref l1), some (.ref l2), some (.int l3), some (.int l4), y5, y6], [.int (8 : Int32), .int l4], (223, kc, ks, pd_H g v))) rfl ?_
    refine ev_gos pp_Cr_exchange 1 (S' := (bif decide ((8 : Int32) ≤ l4) then 45 else 10, [some (.ref l0), some (.ref l1), some (.ref l2), some (.int l3), some (.int l4), y5, y6], [], (223, kc, ks, pd_H g v))) rfl ?_
    rcases pd_cases h with ⟨hb1, h⟩ | ⟨hb1, h⟩
    · rw [hb1]
      refine ev_gos pp_Cr_exchange 2 (S' := (47, [some (.ref l0), some (.ref l1), some (.ref l2), some (.int l3), some (.int l4), y5, y6], [.ref l0, .int l3], (223, kc, ks, pd_H g v))) rfl ?_
      refine ev_get pp_Cr_exchange rfl (c_cr hl0) rfl ?_
      refine ev_gos pp_Cr_exchange 6 (S' := (58, [some (.ref l0), some (.ref l1), some (.ref l2), some (.int l3), some (.int (l3 &&& ((v l0 10) ^^^ (-1 : Int32)))), some (.int (0 : Int32)), y6], [], (223, kc, ks, pd_H g v))) rfl ?_
      exact s_Cr_exchange_58 _ _ _ _ _ _ _ _ _ _ hl0 hl2 h
    · rw [hb1]
      refine ev_gos pp_Cr_exchange 2 (S' := (13, [some (.ref l0), some (.ref l1), some (.ref l2), some (.int l3), some (.int l4), y5, y6], [.int l4, .int l3], (223, kc, ks, pd_H g v))) rfl ?_
      refine ev_call pp_Cr_exchange rfl rfl rfl (s_De_isIn) ?_
      refine ev_gos pp_Cr_exchange 0 (S' := (16, [some (.ref l0), some (.ref l1), some (.ref l2), some (.int l3), some (.int l4), y5, y6], [.int (d_De_isIn l3 l4)], (223, kc, ks, pd_H g v))) rfl ?_
      refine ev_gos pp_Cr_exchange 1 (S' := (bif decide ((d_De_isIn l3 l4) = 0) then 39 else 19, [some (.ref l0), some (.ref l1), some (.ref l2), some (.int l3), some (.int l4), y5, y6], [], (223, kc, ks, pd_H g v))) rfl ?_
      rcases pd_cases h with ⟨hb3, h⟩ | ⟨hb3, h⟩
      · rw [hb3]
        refine ev_gos pp_Cr_exchange 2 (S' := (3, [some (.ref l0), some (.ref l1), some (.ref l2), some (.int l3), some (.int (l4 + (1 : Int32))), y5, y6], [], (223, kc, ks, pd_H g v))) rfl ?_
        exact ih _ _ _ _ _ _ _ _ _ hl0 hl1 hl2 h
      · rw [hb3]
        refine ev_gos pp_Cr_exchange 1 (S' := (20, [some (.ref l0), some (.ref l1), some (.ref l2), some (.int l3), some (.int l4), y5, y6], [.ref l0], (223, kc, ks, pd_H g v))) rfl ?_
        refine ev_get pp_Cr_exchange rfl (c_cr hl0) rfl ?_
        refine ev_gos pp_Cr_exchange 5 (S' := (30, [some (.ref l0), some (.ref l1), some (.ref l2), some (.int l3), some (.int l4), y5, y6], [.int l4, .ref l2, .ref l1, .ref l0, .int l4, .ref (l0 + 8)], (223, kc, ks, pd_H g v))) rfl ?_
        obtain ⟨q4, hq4, h⟩ := pd_bind h
        refine ev_callv pp_Cr_exchange rfl rfl (pd_isa (c_cr hl0)) rfl (s_Cr_decide hl0 hl1 hl2 hq4) ?_
        refine ev_gos pp_Cr_exchange 1 (S' := (35, [some (.ref l0), some (.ref l1), some (.ref l2), some (.int l3), some (.int l4), y5, y6], [.int (8 : Int32), .int q4.1, .int l4, .ref (l0 + 8)], (223, kc, ks, pd_H g q4.2))) rfl ?_
        obtain ⟨q5, hq5, h⟩ := pd_bind h
        refine ev_call pp_Cr_exchange rfl rfl rfl (s_Mat_floorMod hq5) ?_
        refine ev_gos pp_Cr_exchange 0 (S' := (38, [some (.ref l0), some (.ref l1), some (.ref l2), some (.int l3), some (.int l4), y5, y6], [.int q5, .int l4, .ref (l0 + 8)], (223, kc, ks, pd_H g q4.2))) rfl ?_
        obtain ⟨hc6, h⟩ := pd_chk h
        refine ev_iast pp_Cr_exchange rfl (c_cr8 hl0) hc6 ?_
        refine ev_gos pp_Cr_exchange 2 (S' := (3, [some (.ref l0), some (.ref l1), some (.ref l2), some (.int l3), some (.int (l4 + (1 : Int32))), y5, y6], [], (223, kc, ks, pd_H g (pd_w q4.2 (l0 + 8) l4.toNatClampNeg q5)))) rfl ?_
        exact ih _ _ _ _ _ _ _ _ _ hl0 hl1 hl2 h
def d_Cr_exchange (w : Nat) (l0 : Nat) (l1 : Nat) (l2 : Nat) (l3 : Int32) (v : pd_V) : Option pd_V :=
  d_Cr_exchange_3 w w l0 l1 l2 l3 (0 : Int32) v
theorem s_Cr_exchange {w : Nat} {l0 : Nat} {l1 : Nat} {l2 : Nat} {l3 : Int32} {v : pd_V} {q : pd_V} (hl0 : crw l0) (hl1 : ker l1) (hl2 : stp l2) (h : d_Cr_exchange w l0 l1 l2 l3 v = some q) : pm_ev (pj_P xs L) (d + 4) 76 (0, [some (.ref l0), some (.ref l1), some (.ref l2), some (.int l3), none, none, none], [], (223, kc, ks, pd_H g v)) (.inl none, (223, kc, ks, pd_H g q)) := by
  unfold d_Cr_exchange at h
  refine ev_gos pp_Cr_exchange 2 (S' := (3, [some (.ref l0), some (.ref l1), some (.ref l2), some (.int l3), some (.int (0 : Int32)), none, none], [], (223, kc, ks, pd_H g v))) rfl ?_
  exact s_Cr_exchange_3 _ _ _ _ _ _ _ _ _ _ hl0 hl1 hl2 h
theorem pp_Cr_put {xs : Nat → Int32} {L : Nat} : (pj_P xs L 79).1 = fun S => pm_look tb_Cr_put S.1 S := rfl
def d_Cr_put (l0 : Nat) (l1 : Int32) (l2 : Int32) (v : pd_V) : Option pd_V :=
  bif pm_in (l1 &&& (7 : Int32)) 8 then
  bif decide ((v (l0 + 5) ((l1 &&& (7 : Int32)).toNatClampNeg)) < 0) then
    bif pm_in (l1 &&& (7 : Int32)) 8 then
    some (pd_w v (l0 + 5) ((l1 &&& (7 : Int32)).toNatClampNeg) ((v (l0 + 5) ((l1 &&& (7 : Int32)).toNatClampNeg)) + (1 : Int32)))
    else none
  else
    bif decide ((20 : Int32) ≤ (v (l0 + 5) ((l1 &&& (7 : Int32)).toNatClampNeg))) then
      bif pm_in (l1 &&& (7 : Int32)) 8 then
      some (pd_w v (l0 + 5) ((l1 &&& (7 : Int32)).toNatClampNeg) ((v (l0 + 5) ((l1 &&& (7 : Int32)).toNatClampNeg)) + (1 : Int32)))
      else none
    else
      bif pm_in (((l1 &&& (7 : Int32)) * (20 : Int32)) + (v (l0 + 5) ((l1 &&& (7 : Int32)).toNatClampNeg))) 160 then
      bif pm_in (l1 &&& (7 : Int32)) 8 then
      some (pd_w (pd_w v (l0 + 4) ((((l1 &&& (7 : Int32)) * (20 : Int32)) + (v (l0 + 5) ((l1 &&& (7 : Int32)).toNatClampNeg))).toNatClampNeg) l2) (l0 + 5) ((l1 &&& (7 : Int32)).toNatClampNeg) ((v (l0 + 5) ((l1 &&& (7 : Int32)).toNatClampNeg)) + (1 : Int32)))
      else none
      else none
  else none
theorem s_Cr_put {l0 : Nat} {l1 : Int32} {l2 : Int32} {v : pd_V} {q : pd_V} (hl0 : crw l0) (h : d_Cr_put l0 l1 l2 v = some q) : pm_ev (pj_P xs L) d 79 (0, [some (.ref l0), some (.int l1), some (.int l2), none], [], (223, kc, ks, pd_H g v)) (.inl none, (223, kc, ks, pd_H g q)) := by
  unfold d_Cr_put at h
  refine ev_gos pp_Cr_put 1 (S' := (1, [some (.ref l0), some (.int l1), some (.int l2), none], [.ref l0], (223, kc, ks, pd_H g v))) rfl ?_
  refine ev_get pp_Cr_put rfl (c_cr hl0) rfl ?_
  refine ev_gos pp_Cr_put 3 (S' := (8, [some (.ref l0), some (.int l1), some (.int l2), none], [.int (l1 &&& (7 : Int32)), .ref (l0 + 5)], (223, kc, ks, pd_H g v))) rfl ?_
  obtain ⟨hc1, h⟩ := pd_chk h
  refine ev_iald pp_Cr_put rfl (c_cr5 hl0) hc1 ?_
  refine ev_gos pp_Cr_put 2 (S' := (11, [some (.ref l0), some (.int l1), some (.int l2), some (.int (v (l0 + 5) ((l1 &&& (7 : Int32)).toNatClampNeg)))], [.int (v (l0 + 5) ((l1 &&& (7 : Int32)).toNatClampNeg))], (223, kc, ks, pd_H g v))) rfl ?_
  refine ev_gos pp_Cr_put 1 (S' := (bif decide ((v (l0 + 5) ((l1 &&& (7 : Int32)).toNatClampNeg)) < 0) then 35 else 14, [some (.ref l0), some (.int l1), some (.int l2), some (.int (v (l0 + 5) ((l1 &&& (7 : Int32)).toNatClampNeg)))], [], (223, kc, ks, pd_H g v))) rfl ?_
  rcases pd_cases h with ⟨hb2, h⟩ | ⟨hb2, h⟩
  · rw [hb2]
    refine ev_gos pp_Cr_put 1 (S' := (36, [some (.ref l0), some (.int l1), some (.int l2), some (.int (v (l0 + 5) ((l1 &&& (7 : Int32)).toNatClampNeg)))], [.ref l0], (223, kc, ks, pd_H g v))) rfl ?_
    refine ev_get pp_Cr_put rfl (c_cr hl0) rfl ?_
    refine ev_gos pp_Cr_put 6 (S' := (46, [some (.ref l0), some (.int l1), some (.int l2), some (.int (v (l0 + 5) ((l1 &&& (7 : Int32)).toNatClampNeg)))], [.int ((v (l0 + 5) ((l1 &&& (7 : Int32)).toNatClampNeg)) + (1 : Int32)), .int (l1 &&& (7 : Int32)), .ref (l0 + 5)], (223, kc, ks, pd_H g v))) rfl ?_
    obtain ⟨hc3, h⟩ := pd_chk h
    refine ev_iast pp_Cr_put rfl (c_cr5 hl0) hc3 ?_
    refine ev_gos pp_Cr_put 0 (S' := (47, [some (.ref l0), some (.int l1), some (.int l2), some (.int (v (l0 + 5) ((l1 &&& (7 : Int32)).toNatClampNeg)))], [], (223, kc, ks, pd_H g (pd_w v (l0 + 5) ((l1 &&& (7 : Int32)).toNatClampNeg) ((v (l0 + 5) ((l1 &&& (7 : Int32)).toNatClampNeg)) + (1 : Int32)))))) rfl ?_
    cases h
    exact ev_fin pp_Cr_put rfl
  · rw [hb2]
    refine ev_gos pp_Cr_put 2 (S' := (17, [some (.ref l0), some (.int l1), some (.int l2), some (.int (v (l0 + 5) ((l1 &&& (7 : Int32)).toNatClampNeg)))], [.int (20 : Int32), .int (v (l0 + 5) ((l1 &&& (7 : Int32)).toNatClampNeg))], (223, kc, ks, pd_H g v))) rfl ?_
    refine ev_gos pp_Cr_put 1 (S' := (bif decide ((20 : Int32) ≤ (v (l0 + 5) ((l1 &&& (7 : Int32)).toNatClampNeg))) then 35 else 20, [some (.ref l0), some (.int l1), some (.int l2), some (.int (v (l0 + 5) ((l1 &&& (7 : Int32)).toNatClampNeg)))], [], (223, kc, ks, pd_H g v))) rfl ?_
    rcases pd_cases h with ⟨hb4, h⟩ | ⟨hb4, h⟩
    · rw [hb4]
      refine ev_gos pp_Cr_put 1 (S' := (36, [some (.ref l0), some (.int l1), some (.int l2), some (.int (v (l0 + 5) ((l1 &&& (7 : Int32)).toNatClampNeg)))], [.ref l0], (223, kc, ks, pd_H g v))) rfl ?_
      refine ev_get pp_Cr_put rfl (c_cr hl0) rfl ?_
      refine ev_gos pp_Cr_put 6 (S' := (46, [some (.ref l0), some (.int l1), some (.int l2), some (.int (v (l0 + 5) ((l1 &&& (7 : Int32)).toNatClampNeg)))], [.int ((v (l0 + 5) ((l1 &&& (7 : Int32)).toNatClampNeg)) + (1 : Int32)), .int (l1 &&& (7 : Int32)), .ref (l0 + 5)], (223, kc, ks, pd_H g v))) rfl ?_
      obtain ⟨hc5, h⟩ := pd_chk h
      refine ev_iast pp_Cr_put rfl (c_cr5 hl0) hc5 ?_
      refine ev_gos pp_Cr_put 0 (S' := (47, [some (.ref l0), some (.int l1), some (.int l2), some (.int (v (l0 + 5) ((l1 &&& (7 : Int32)).toNatClampNeg)))], [], (223, kc, ks, pd_H g (pd_w v (l0 + 5) ((l1 &&& (7 : Int32)).toNatClampNeg) ((v (l0 + 5) ((l1 &&& (7 : Int32)).toNatClampNeg)) + (1 : Int32)))))) rfl ?_
      cases h
      exact ev_fin pp_Cr_put rfl
    · rw [hb4]
      refine ev_gos pp_Cr_put 1 (S' := (21, [some (.ref l0), some (.int l1), some (.int l2), some (.int (v (l0 + 5) ((l1 &&& (7 : Int32)).toNatClampNeg)))], [.ref l0], (223, kc, ks, pd_H g v))) rfl ?_
      refine ev_get pp_Cr_put rfl (c_cr hl0) rfl ?_
      refine ev_gos pp_Cr_put 8 (S' := (34, [some (.ref l0), some (.int l1), some (.int l2), some (.int (v (l0 + 5) ((l1 &&& (7 : Int32)).toNatClampNeg)))], [.int l2, .int (((l1 &&& (7 : Int32)) * (20 : Int32)) + (v (l0 + 5) ((l1 &&& (7 : Int32)).toNatClampNeg))), .ref (l0 + 4)], (223, kc, ks, pd_H g v))) rfl ?_
      obtain ⟨hc6, h⟩ := pd_chk h
      refine ev_iast pp_Cr_put rfl (c_cr4 hl0) hc6 ?_
      refine ev_gos pp_Cr_put 1 (S' := (36, [some (.ref l0), some (.int l1), some (.int l2), some (.int (v (l0 + 5) ((l1 &&& (7 : Int32)).toNatClampNeg)))], [.ref l0], (223, kc, ks, pd_H g (pd_w v (l0 + 4) ((((l1 &&& (7 : Int32)) * (20 : Int32)) + (v (l0 + 5) ((l1 &&& (7 : Int32)).toNatClampNeg))).toNatClampNeg) l2)))) rfl ?_
      refine ev_get pp_Cr_put rfl (c_cr hl0) rfl ?_
      refine ev_gos pp_Cr_put 6 (S' := (46, [some (.ref l0), some (.int l1), some (.int l2), some (.int (v (l0 + 5) ((l1 &&& (7 : Int32)).toNatClampNeg)))], [.int ((v (l0 + 5) ((l1 &&& (7 : Int32)).toNatClampNeg)) + (1 : Int32)), .int (l1 &&& (7 : Int32)), .ref (l0 + 5)], (223, kc, ks, pd_H g (pd_w v (l0 + 4) ((((l1 &&& (7 : Int32)) * (20 : Int32)) + (v (l0 + 5) ((l1 &&& (7 : Int32)).toNatClampNeg))).toNatClampNeg) l2)))) rfl ?_
      obtain ⟨hc7, h⟩ := pd_chk h
      refine ev_iast pp_Cr_put rfl (c_cr5 hl0) hc7 ?_
      refine ev_gos pp_Cr_put 0 (S' := (47, [some (.ref l0), some (.int l1), some (.int l2), some (.int (v (l0 + 5) ((l1 &&& (7 : Int32)).toNatClampNeg)))], [], (223, kc, ks, pd_H g (pd_w (pd_w v (l0 + 4) ((((l1 &&& (7 : Int32)) * (20 : Int32)) + (v (l0 + 5) ((l1 &&& (7 : Int32)).toNatClampNeg))).toNatClampNeg) l2) (l0 + 5) ((l1 &&& (7 : Int32)).toNatClampNeg) ((v (l0 + 5) ((l1 &&& (7 : Int32)).toNatClampNeg)) + (1 : Int32)))))) rfl ?_
      cases h
      exact ev_fin pp_Cr_put rfl
end FN
