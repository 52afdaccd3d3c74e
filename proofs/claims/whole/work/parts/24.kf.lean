/-! what is known at the law's entry -/
theorem kf_arr {s : State} {args : Array Value} {ty : FieldType} (h : (Cond.arrayClass ty).before args s = true) : ∃ cA, ArrOfT s cA ty ∧ s.vm.findClass ("[" ++ ty.toString) = some cA := by
  obtain ⟨c, k, comp, h1, h2, h3⟩ := Cond.arrayClass_spec h
  exact ⟨c, fun n z => ⟨fun k h => (by cases h), k, h2, comp, h3⟩, h1⟩
theorem kf_ao {s : State} {C : String} (h : va_AO C s) : ∃ cA, ArrOfT s cA (.object C) ∧ va_RA s cA (.object C) := by
  obtain ⟨comp, c, k, h1, h2, h3, h4, h5⟩ := Cond.arrayOver_spec h
  exact ⟨c, fun n z => ⟨fun k h => (by cases h), k, h3, comp, h4⟩, k, comp, h3, h4, h1, h5⟩
theorem kf_ref {C n d : String} {A : Nat → Prop} {U : State} {a : Array Value} (h : va_Zq C n d A U U.heap) : (Cond.isRef (.static C n d)).before a U = true := by
  rcases h with ⟨cf, kf, fi, f, ad, cell, h1, h2, h3, h4, h5, h6, h7, h8⟩ | ⟨t, cf, kf, fi, f, ad, cell, h1, h2, h3, h4, h5, h6, h7, h8⟩
  · simp [Cond.before, Cond.holds, Cond.value, Term.eval, State.fieldNamed?, h1, h2, h4, h5, h6, h7]
  · simp [Cond.before, Cond.holds, Cond.value, Term.eval, State.fieldNamed?, h1, h2, h4, h5, h6, h7]
theorem kf_lay {C n d : String} {s U : State} {args a : Array Value} (h : (Cond.laysStatic C n d).before args s = true) (hvm : s.vm.Alike U.vm) (hk : ∀ q : Nat, q < s.heap.size → U.heap[q]? = s.heap[q]?) : (Cond.laysStatic C n d).before a U = true := by
  obtain ⟨c, k, i, f, ad, cell, hc, hi, hst, ha, hcell, hs, hcls, hlt, hty⟩ := Cond.laysStatic_spec h
  obtain ⟨k', hi', he⟩ := State.fieldFound?_setVm hvm hi
  have hc' : U.vm.findClass C = some c := by rw [hvm.findClass]; exact hc
  have ha' : k'.statics = some ad := by rw [he]; exact ha
  have hty' : k'.staticTypes[f.slot]? = some f.type := by rw [he]; exact hty
  have hcell' : U.heap[ad]? = some cell := by rw [hk ad (Array.getElem?_eq_some_iff.mp hcell).1]; exact hcell
  have hi' : U.fieldFound? C n d = some (c, k', i, f) := hi'
  simp only [Cond.before, Cond.holds, Cond.value]
  rw [hc', hi']
  simp [ha', hcell', hst, hs, hcls, hlt, hty']
set_option maxRecDepth 20000 in
theorem kf_nl : ∀ q ∈ pj_nl, Cond.methodLinkNest q.1 q.2.1 q.2.2.1 q.2.2.2 ∈ lw_tbl := by
  unfold pj_nl
  refine List.forall_mem_cons.mpr ⟨List.mem_of_getElem? (i := 98) (by decide +kernel), ?_⟩
  refine List.forall_mem_cons.mpr ⟨List.mem_of_getElem? (i := 111) (by decide +kernel), ?_⟩
  refine List.forall_mem_cons.mpr ⟨List.mem_of_getElem? (i := 224) (by decide +kernel), ?_⟩
  refine List.forall_mem_cons.mpr ⟨List.mem_of_getElem? (i := 230) (by decide +kernel), ?_⟩
  refine List.forall_mem_cons.mpr ⟨List.mem_of_getElem? (i := 307) (by decide +kernel), ?_⟩
  refine List.forall_mem_cons.mpr ⟨List.mem_of_getElem? (i := 312) (by decide +kernel), ?_⟩
  refine List.forall_mem_cons.mpr ⟨List.mem_of_getElem? (i := 564) (by decide +kernel), ?_⟩
  refine List.forall_mem_cons.mpr ⟨List.mem_of_getElem? (i := 692) (by decide +kernel), ?_⟩
  refine List.forall_mem_cons.mpr ⟨List.mem_of_getElem? (i := 713) (by decide +kernel), ?_⟩
  refine List.forall_mem_cons.mpr ⟨List.mem_of_getElem? (i := 738) (by decide +kernel), ?_⟩
  refine List.forall_mem_cons.mpr ⟨List.mem_of_getElem? (i := 784) (by decide +kernel), ?_⟩
  exact fun _ h => absurd h List.not_mem_nil
theorem kf_sl : ∀ q ∈ pj_st, Cond.stringRef q.1 q.2.1 q.2.2 ∈ lw_tbl ∧ q.1 = "LaneDesk" := by
  unfold pj_st
  refine List.forall_mem_cons.mpr ⟨⟨List.mem_of_getElem? (i := 533) (by decide +kernel), rfl⟩, ?_⟩
  refine List.forall_mem_cons.mpr ⟨⟨List.mem_of_getElem? (i := 574) (by decide +kernel), rfl⟩, ?_⟩
  refine List.forall_mem_cons.mpr ⟨⟨List.mem_of_getElem? (i := 593) (by decide +kernel), rfl⟩, ?_⟩
  refine List.forall_mem_cons.mpr ⟨⟨List.mem_of_getElem? (i := 604) (by decide +kernel), rfl⟩, ?_⟩
  refine List.forall_mem_cons.mpr ⟨⟨List.mem_of_getElem? (i := 617) (by decide +kernel), rfl⟩, ?_⟩
  refine List.forall_mem_cons.mpr ⟨⟨List.mem_of_getElem? (i := 758) (by decide +kernel), rfl⟩, ?_⟩
  refine List.forall_mem_cons.mpr ⟨⟨List.mem_of_getElem? (i := 844) (by decide +kernel), rfl⟩, ?_⟩
  refine List.forall_mem_cons.mpr ⟨⟨List.mem_of_getElem? (i := 862) (by decide +kernel), rfl⟩, ?_⟩
  refine List.forall_mem_cons.mpr ⟨⟨List.mem_of_getElem? (i := 592) (by decide +kernel), rfl⟩, ?_⟩
  refine List.forall_mem_cons.mpr ⟨⟨List.mem_of_getElem? (i := 669) (by decide +kernel), rfl⟩, ?_⟩
  refine List.forall_mem_cons.mpr ⟨⟨List.mem_of_getElem? (i := 609) (by decide +kernel), rfl⟩, ?_⟩
  refine List.forall_mem_cons.mpr ⟨⟨List.mem_of_getElem? (i := 673) (by decide +kernel), rfl⟩, ?_⟩
  refine List.forall_mem_cons.mpr ⟨⟨List.mem_of_getElem? (i := 817) (by decide +kernel), rfl⟩, ?_⟩
  refine List.forall_mem_cons.mpr ⟨⟨List.mem_of_getElem? (i := 818) (by decide +kernel), rfl⟩, ?_⟩
  exact fun _ h => absurd h List.not_mem_nil
set_option maxRecDepth 100000 in
set_option maxHeartbeats 4000000 in
theorem kf_at {s : State} {b : Nat} (hts : ∀ w ∈ lw_tbl, w.before #[Value.ref b] s = true) (hgv : (Jvm.Cond.and given_1 narrow_1).before #[Value.ref b] s = true) : ∃ (D : va_G) (aC : Nat → ClassId) (sa : Nat → Nat), pj_KF D aC s.heap.size sa s := by
  have hs := flat_of_before _ hgv
  have hG : ∀ w ∈ pj_G, w.before #[Value.ref b] s = true := fun w h => hts w (List.mem_filter.mp h).1
  obtain ⟨c0, i0, hk0⟩ := u_known (C := R_De) (T := T_De) (N := 8) (n := 8) hG in_De (hts (.instantiable R_De 8) (List.mem_of_getElem? (i := 89) (by decide +kernel)))
  obtain ⟨c1, i1, hk1⟩ := u_known (C := R_Re) (T := T_Re) (N := 7) (n := 7) hG in_Re (hts (.instantiable R_Re 7) (List.mem_of_getElem? (i := 97) (by decide +kernel)))
  obtain ⟨c2, i2, hk2⟩ := u_known (C := R_Ke) (T := T_Ke) (N := 6) (n := 6) hG in_Ke (hts (.instantiable R_Ke 6) (List.mem_of_getElem? (i := 103) (by decide +kernel)))
  obtain ⟨c3, i3, hk3⟩ := u_known (C := R_St) (T := T_St) (N := 11) (n := 11) hG in_St (hts (.instantiable R_St 11) (List.mem_of_getElem? (i := 110) (by decide +kernel)))
  obtain ⟨c4, i4, hk4⟩ := u_known (C := R_To) (T := T_To) (N := 9) (n := 9) hG in_To (hts (.instantiable R_To 9) (List.mem_of_getElem? (i := 223) (by decide +kernel)))
  obtain ⟨c5, i5, hk5⟩ := u_known (C := R_Cr) (T := T_Cr) (N := 11) (n := 11) hG in_Cr (hts (.instantiable R_Cr 11) (List.mem_of_getElem? (i := 229) (by decide +kernel)))
  obtain ⟨c6, i6, hk6⟩ := u_known (C := R_Ap) (T := T_Ap) (N := 4) (n := 4) hG in_Ap (hts (.instantiable R_Ap 4) (List.mem_of_getElem? (i := 306) (by decide +kernel)))
  obtain ⟨c7, i7, hk7⟩ := u_known (C := R_Mo) (T := T_Mo) (N := 43) (n := 43) hG in_Mo (hts (.instantiable R_Mo 43) (List.mem_of_getElem? (i := 869) (by decide +kernel)))
  have hAO : va_AO "LaneDesk$Step" s := va_AO.of (hts _ (List.mem_of_getElem? (i := 109) (by decide +kernel)))
  obtain ⟨a0, b0, e0⟩ := kf_arr (hts (Cond.arrayClass .int) (List.mem_of_getElem? (i := 170) (by decide +kernel)))
  obtain ⟨a1, b1, e1⟩ := kf_arr (hts (Cond.arrayClass .long) (List.mem_of_getElem? (i := 1226) (by decide +kernel)))
  obtain ⟨a2, b2, e2⟩ := kf_arr (hts (Cond.arrayClass .boolean) (List.mem_of_getElem? (i := 1004) (by decide +kernel)))
  obtain ⟨a3, b3, e3⟩ := kf_ao hAO
  have hstr : ∀ k : Nat, ∃ a : Nat, ∀ q : String × Nat × String, pj_st[k]? = some q → vk_R q.1 q.2.1 q.2.2 a s := by
    intro k
    rcases hq : pj_st[k]? with _ | q
    · exact ⟨0, fun q h => (nomatch h)⟩
    · obtain ⟨h1, h2⟩ := kf_sl q (List.mem_of_getElem? hq)
      have h3 := hts _ h1
      obtain ⟨k9, cf, i9, a, -, -, -, -, -, h4⟩ := Cond.stringRef_spec (cur := c0) (by rw [h2]; exact hk0.2.1) h3
      exact ⟨a, fun q' h => by cases h; exact vk_R.of h3 h4⟩
  obtain ⟨sa, hsa⟩ := Classical.axiomOfChoice hstr
  refine ⟨(fun k => if k = 0 then c0 else if k = 1 then c1 else if k = 2 then c2 else if k = 3 then c3 else if k = 4 then c4 else if k = 5 then c5 else if k = 6 then c6 else c7, fun k => if k = 0 then i0 else if k = 1 then i1 else if k = 2 then i2 else if k = 3 then i3 else if k = 4 then i4 else if k = 5 then i5 else if k = 6 then i6 else i7), fun k => if k = 0 then a0 else if k = 1 then a1 else if k = 2 then a2 else a3, sa, ⟨?_, ?_⟩, hAO, ?_, ?_, fun k q h => hsa k q h, ?_, ?_⟩
  · intro k q hq
    match k, hq with
    | 0, hq => cases hq; exact hk0
    | 1, hq => cases hq; exact hk1
    | 2, hq => cases hq; exact hk2
    | 3, hq => cases hq; exact hk3
    | 4, hq => cases hq; exact hk4
    | 5, hq => cases hq; exact hk5
    | 6, hq => cases hq; exact hk6
    | 7, hq => cases hq; exact hk7
    | k + 8, hq => simp [pj_cl] at hq
  · intro k q hq
    match k, hq with
    | 0, hq => cases hq; exact ⟨b0, e0⟩
    | 1, hq => cases hq; exact ⟨b1, e1⟩
    | 2, hq => cases hq; exact ⟨b2, e2⟩
    | 3, hq => cases hq; exact ⟨b3, e3⟩
    | k + 4, hq => simp [pj_tys] at hq
  · intro w hw
    obtain ⟨h1, h2⟩ := List.mem_filter.mp hw
    simp only [pj_ok, Bool.and_eq_true] at h2
    exact va_Nw.of h2.1 (hts w h1)
  · intro q hq
    exact va_Nw.of rfl (hts _ (kf_nl q hq))
  · intro U hW hk
    have hk' : ∀ q : Nat, q < s.heap.size → U.heap[q]? = s.heap[q]? := fun q h => hk q h h
    have z1 := va_Zqof (A := fun q : Nat => s.heap.size ≤ q) (hts (.laysStatic Bundle.tN "UNASSIGNED_STACK" Bundle.steD) (List.mem_of_getElem? (i := 519) (by decide +kernel))) (hts (.initialized Bundle.tN) (List.mem_of_getElem? (i := 78) (by decide +kernel))) (hs (.isRef (.static Bundle.tN "UNASSIGNED_STACK" Bundle.steD)) (by decide +kernel)) (fun a h => Nat.not_le.mpr h)
    have z2 := va_Zqof (A := fun q : Nat => s.heap.size ≤ q) (hts (.laysStatic Bundle.tN "SUPPRESSED_SENTINEL" Bundle.listD) (List.mem_of_getElem? (i := 521) (by decide +kernel))) (hts (.initialized Bundle.tN) (List.mem_of_getElem? (i := 78) (by decide +kernel))) (hs (.isRef (.static Bundle.tN "SUPPRESSED_SENTINEL" Bundle.listD)) (by decide +kernel)) (fun a h => Nat.not_le.mpr h)
    have y1 := va_Zq.kept (va_Zq.moved hW.alike z1) (H1 := U.heap) (fun q h _ => hk' q h)
    have y2 := va_Zq.kept (va_Zq.moved hW.alike z2) (H1 := U.heap) (fun q h _ => hk' q h)
    unfold pj_4
    refine List.forall_mem_cons.mpr ⟨fun a => kf_ref y1, List.forall_mem_cons.mpr ⟨fun a => kf_ref y2, List.forall_mem_cons.mpr ⟨fun a => kf_lay (hts _ (List.mem_of_getElem? (i := 519) (by decide +kernel))) hW.alike hk', List.forall_mem_cons.mpr ⟨fun a => kf_lay (hts _ (List.mem_of_getElem? (i := 521) (by decide +kernel))) hW.alike hk', fun _ h => absurd h List.not_mem_nil⟩⟩⟩⟩
  · unfold pj_nc
    refine List.forall_mem_cons.mpr ⟨va_Nc.of (hs (.not (.castable "java/lang/IllegalArgumentException" "java/lang/IllegalStateException")) (by decide +kernel)), List.forall_mem_cons.mpr ⟨va_Nc.of (hs (.not (.castable "java/lang/IllegalStateException" "java/lang/IllegalArgumentException")) (by decide +kernel)), List.forall_mem_cons.mpr ⟨va_Nc.of (hs (.not (.castable "java/lang/IndexOutOfBoundsException" "java/lang/IllegalArgumentException")) (by decide +kernel)), List.forall_mem_cons.mpr ⟨va_Nc.of (hs (.not (.castable "java/lang/IndexOutOfBoundsException" "java/lang/IllegalStateException")) (by decide +kernel)), fun _ h => absurd h List.not_mem_nil⟩⟩⟩⟩
