section IO
variable {p : Program} {l : Launch} {e : Env} {R : Room} {s : State} {m : MethodId} {args : Array Value} {below : List Frame} {meth : Method} {c : Code} {D : va_G} {z b : Nat} {aC : Nat → ClassId} {k0 s0 n0 : Nat} {sa : Nat → Nat} {xs : Nat → Int32} {L : Nat}
theorem mo_De_cell_ : ∀ q ∈ tb_De_cell, pm_MO q.2 := by
  unfold tb_De_cell
  refine List.forall_mem_cons.mpr ⟨pm_MO.go (mo_iload _ _), ?_⟩
  refine List.forall_mem_cons.mpr ⟨pm_MO.go (mo_if _ _), ?_⟩
  refine List.forall_mem_cons.mpr ⟨pm_MO.go (mo_iload _ _), ?_⟩
  refine List.forall_mem_cons.mpr ⟨pm_MO.go (mo_c _ _), ?_⟩
  refine List.forall_mem_cons.mpr ⟨pm_MO.go (mo_icmp _ _), ?_⟩
  refine List.forall_mem_cons.mpr ⟨pm_MO.fin (fin_throw _), ?_⟩
  refine List.forall_mem_cons.mpr ⟨pm_MO.go (mo_aload _ _), ?_⟩
  refine List.forall_mem_cons.mpr ⟨pm_MO.go (mo_iload _ _), ?_⟩
  refine List.forall_mem_cons.mpr ⟨pm_MO.go (mo_iload _ _), ?_⟩
  refine List.forall_mem_cons.mpr ⟨mo_callv _ _ _, ?_⟩
  refine List.forall_mem_cons.mpr ⟨pm_MO.go (mo_astore _ _), ?_⟩
  refine List.forall_mem_cons.mpr ⟨pm_MO.go (mo_iload _ _), ?_⟩
  refine List.forall_mem_cons.mpr ⟨pm_MO.go (mo_c _ _), ?_⟩
  refine List.forall_mem_cons.mpr ⟨pm_MO.go (mo_icmp _ _), ?_⟩
  refine List.forall_mem_cons.mpr ⟨pm_MO.go (mo_aload _ _), ?_⟩
  refine List.forall_mem_cons.mpr ⟨pm_MO.go (mo_iload _ _), ?_⟩
  refine List.forall_mem_cons.mpr ⟨pm_MO.go (mo_iload _ _), ?_⟩
  refine List.forall_mem_cons.mpr ⟨mo_callv _ _ _, ?_⟩
  refine List.forall_mem_cons.mpr ⟨pm_MO.go (mo_goto _), ?_⟩
  refine List.forall_mem_cons.mpr ⟨pm_MO.go (mo_aload _ _), ?_⟩
  refine List.forall_mem_cons.mpr ⟨pm_MO.go (mo_iload _ _), ?_⟩
  refine List.forall_mem_cons.mpr ⟨pm_MO.go (mo_iload _ _), ?_⟩
  refine List.forall_mem_cons.mpr ⟨pm_MO.go (mo_c _ _), ?_⟩
  refine List.forall_mem_cons.mpr ⟨pm_MO.go (mo_i2 _), ?_⟩
  refine List.forall_mem_cons.mpr ⟨mo_callv _ _ _, ?_⟩
  refine List.forall_mem_cons.mpr ⟨pm_MO.fin fin_iret, ?_⟩
  exact fun _ h => absurd h List.not_mem_nil
theorem mo_De_cell : pm_MO M_De_cell.1 := pm_MO.look mo_De_cell_
set_option maxHeartbeats 4000000 in
theorem io_De_cell (hl9 : l.stackTraces = false) (hcx : pm_cx p s m args meth c y_De_cell prog_1_method_16_code 5 (Option.some Jvm.ClassFile.FieldType.int) w_De_cell) (hno : ∀ x ∈ c.exceptionTable.toList, False) (hF : pj_KF D aC z sa s) (hz : z ≤ s.heap.size ∧ n0 ≤ k0 ∧ (n0 = k0 → s.heap.size = z + n0)) (hf : 8 ≤ R.frames) (hlo : 256 ≤ R.locals) : ∀ q ∈ tb_De_cell, pm_IO p l e R s m args below meth c D pj_cl z b aC k0 s0 n0 pj_mi (pm_Eo below D pj_cl z b aC pj_xn args s k0 s0) q := by
  obtain ⟨hx, hb, -, hr, hlocks, hname, hown, hts⟩ := hcx
  have hG : ∀ w ∈ pj_G, w.before args s = true := fun w h => hts w (List.mem_cons_of_mem _ h)
  have hK := hF.1
  have hAO := hF.2.1
  have hSt := hF.2.2.2.2.1
  unfold tb_De_cell
  refine List.forall_mem_cons.mpr ⟨pm_IO.go (ps_iload_n (kk := 3) hx hb rfl (by decide +kernel)), ?_⟩
  refine List.forall_mem_cons.mpr ⟨pm_IO.go (ps_if_lt hx hb (off := 9) (by decide +kernel) (by decide +kernel)), ?_⟩
  refine List.forall_mem_cons.mpr ⟨pm_IO.go (ps_iload_n (kk := 3) hx hb rfl (by decide +kernel)), ?_⟩
  refine List.forall_mem_cons.mpr ⟨pm_IO.go (ps_bipush hx hb (n := (16)) (v := (16)) (by decide +kernel) (by decide +kernel)), ?_⟩
  refine List.forall_mem_cons.mpr ⟨pm_IO.go (ps_icmp_lt hx hb (off := 13) (by decide +kernel) (by decide +kernel)), ?_⟩
  refine List.forall_mem_cons.mpr ⟨pm_IO.fin (fin_throw _) (ps_throw hx hb hl9 hown (by decide +kernel) pj_supf (hG _ wi_423) (hG _ wi_12) (hSt 7 _ rfl) (pj_th hF th_0) rfl (by decide +kernel) hf hlo hno hlocks (by decide +kernel) (by decide +kernel) (by decide +kernel) (by decide +kernel) (by decide +kernel)), ?_⟩
  refine List.forall_mem_cons.mpr ⟨pm_IO.go (ps_aload_n (kk := 0) hx hb rfl (by decide +kernel)), ?_⟩
  refine List.forall_mem_cons.mpr ⟨pm_IO.go (ps_iload_n (kk := 1) hx hb rfl (by decide +kernel)), ?_⟩
  refine List.forall_mem_cons.mpr ⟨pm_IO.go (ps_iload_n (kk := 2) hx hb rfl (by decide +kernel)), ?_⟩
  refine List.forall_mem_cons.mpr ⟨pl_V hx hb hown (hG _ wi_744) (hG _ wi_746) (hG _ ws_De_crewOf) (sg_De_crewOf hG) (by decide +kernel) hK (ci := 0) rfl rfl (n := 2) (by decide +kernel) (cw_De_crewOf hG) mi_De_crewOf (by decide +kernel), ?_⟩
  refine List.forall_mem_cons.mpr ⟨pm_IO.go (ps_astore hx hb (by decide +kernel)), ?_⟩
  refine List.forall_mem_cons.mpr ⟨pm_IO.go (ps_iload_n (kk := 3) hx hb rfl (by decide +kernel)), ?_⟩
  refine List.forall_mem_cons.mpr ⟨pm_IO.go (ps_bipush hx hb (n := (8)) (v := (8)) (by decide +kernel) (by decide +kernel)), ?_⟩
  refine List.forall_mem_cons.mpr ⟨pm_IO.go (ps_icmp_ge hx hb (off := 13) (by decide +kernel) (by decide +kernel)), ?_⟩
  refine List.forall_mem_cons.mpr ⟨pm_IO.go (ps_aload hx hb (by decide +kernel)), ?_⟩
  refine List.forall_mem_cons.mpr ⟨pm_IO.go (ps_iload_n (kk := 2) hx hb rfl (by decide +kernel)), ?_⟩
  refine List.forall_mem_cons.mpr ⟨pm_IO.go (ps_iload_n (kk := 3) hx hb rfl (by decide +kernel)), ?_⟩
  refine List.forall_mem_cons.mpr ⟨pl_V hx hb hown (hG _ wi_794) (hG _ wi_795) (hG _ wi_796) (sg_Cr_cellOf hG) (by decide +kernel) hK (ci := 5) rfl rfl (n := 2) (by decide +kernel) (cw_Cr_cellOf hG) mi_Cr_cellOf (by decide +kernel), ?_⟩
  refine List.forall_mem_cons.mpr ⟨pm_IO.go (ps_goto hx hb (off := 13) (by decide +kernel) (by decide +kernel)), ?_⟩
  refine List.forall_mem_cons.mpr ⟨pm_IO.go (ps_aload hx hb (by decide +kernel)), ?_⟩
  refine List.forall_mem_cons.mpr ⟨pm_IO.go (ps_iload_n (kk := 2) hx hb rfl (by decide +kernel)), ?_⟩
  refine List.forall_mem_cons.mpr ⟨pm_IO.go (ps_iload_n (kk := 3) hx hb rfl (by decide +kernel)), ?_⟩
  refine List.forall_mem_cons.mpr ⟨pm_IO.go (ps_bipush hx hb (n := (8)) (v := (8)) (by decide +kernel) (by decide +kernel)), ?_⟩
  refine List.forall_mem_cons.mpr ⟨pm_IO.go (ps_isub hx hb (by decide +kernel)), ?_⟩
  refine List.forall_mem_cons.mpr ⟨pl_V hx hb hown (hG _ wi_798) (hG _ wi_641) (hG _ wi_642) (sg_Cr_variableOf hG) (by decide +kernel) hK (ci := 5) rfl rfl (n := 2) (by decide +kernel) (cw_Cr_variableOf hG) mi_Cr_variableOf (by decide +kernel), ?_⟩
  refine List.forall_mem_cons.mpr ⟨pm_IO.fin fin_iret (ps_iret hx hb hr hlocks (by decide +kernel)), ?_⟩
  exact fun _ h => absurd h List.not_mem_nil
theorem ok_De_cell (hl9 : l.stackTraces = false) : pm_Ok l (pj_KF D aC z sa) D pj_cl z b aC pj_xn pj_mi (pj_P xs L) 96 :=
  pm_okW (ret := (Option.some Jvm.ClassFile.FieldType.int)) rfl rfl mi_De_cell rfl mo_De_cell (fun p e R s m args below meth c k0 s0 n0 hcx hno hF hz hf hlo => pm_B.tbl rfl (io_De_cell hl9 hcx hno hF hz hf hlo) (fun pc x ls h H locs LS cells slots q ce rest hl hq hS hk hs hn hce hcv hcl => ⟨fun pc1 i hM => (nomatch (show (Sum.inr true : (Nat × Nat) ⊕ Bool) = .inl (pc1, i) from hM)), fun _ => pm_pass hno hcx.2.2.2.2.1 hq hS hk hs hce hcv hcl⟩))
theorem mo_Cr_cellOf_ : ∀ q ∈ tb_Cr_cellOf, pm_MO q.2 := by
  unfold tb_Cr_cellOf
  refine List.forall_mem_cons.mpr ⟨pm_MO.go (mo_aload _ _), ?_⟩
  refine List.forall_mem_cons.mpr ⟨pm_MO.go (mo_get _ _), ?_⟩
  refine List.forall_mem_cons.mpr ⟨pm_MO.go (mo_iload _ _), ?_⟩
  refine List.forall_mem_cons.mpr ⟨pm_MO.go (mo_iload _ _), ?_⟩
  refine List.forall_mem_cons.mpr ⟨mo_call _ _, ?_⟩
  refine List.forall_mem_cons.mpr ⟨pm_MO.go (mo_iald), ?_⟩
  refine List.forall_mem_cons.mpr ⟨pm_MO.fin fin_iret, ?_⟩
  exact fun _ h => absurd h List.not_mem_nil
theorem mo_Cr_cellOf : pm_MO M_Cr_cellOf.1 := pm_MO.look mo_Cr_cellOf_
set_option maxHeartbeats 4000000 in
theorem io_Cr_cellOf (hl9 : l.stackTraces = false) (hcx : pm_cx p s m args meth c y_Cr_cellOf prog_3_method_6_code 3 (Option.some Jvm.ClassFile.FieldType.int) w_Cr_cellOf) (hno : ∀ x ∈ c.exceptionTable.toList, False) (hF : pj_KF D aC z sa s) (hz : z ≤ s.heap.size ∧ n0 ≤ k0 ∧ (n0 = k0 → s.heap.size = z + n0)) (hf : 8 ≤ R.frames) (hlo : 256 ≤ R.locals) : ∀ q ∈ tb_Cr_cellOf, pm_IO p l e R s m args below meth c D pj_cl z b aC k0 s0 n0 pj_mi (pm_Eo below D pj_cl z b aC pj_xn args s k0 s0) q := by
  obtain ⟨hx, hb, -, hr, hlocks, hname, hown, hts⟩ := hcx
  have hG : ∀ w ∈ pj_G, w.before args s = true := fun w h => hts w (List.mem_cons_of_mem _ h)
  have hK := hF.1
  have hAO := hF.2.1
  have hSt := hF.2.2.2.2.1
  unfold tb_Cr_cellOf
  refine List.forall_mem_cons.mpr ⟨pm_IO.go (ps_aload_n (kk := 0) hx hb rfl (by decide +kernel)), ?_⟩
  refine List.forall_mem_cons.mpr ⟨pm_IO.go (ps_get hx hb hG in_Cr hown hK (ci := 5) rfl 2 (by decide +kernel) (hG _ wi_167) (fun _ h9 => h9) (by decide +kernel)), ?_⟩
  refine List.forall_mem_cons.mpr ⟨pm_IO.go (ps_iload_n (kk := 1) hx hb rfl (by decide +kernel)), ?_⟩
  refine List.forall_mem_cons.mpr ⟨pm_IO.go (ps_iload_n (kk := 2) hx hb rfl (by decide +kernel)), ?_⟩
  refine List.forall_mem_cons.mpr ⟨pl_SN hx hb hown (nf_8 hF) (hG _ wi_645) (hG _ wi_1) (sg_De_slot hG) (nd_De_slot hG) (by decide +kernel) (n := 2) (by decide +kernel) (cw_De_slot hG) mi_De_slot (by decide +kernel), ?_⟩
  refine List.forall_mem_cons.mpr ⟨pm_IO.go (ps_iald hx hb hK 0 rfl (by decide +kernel)), ?_⟩
  refine List.forall_mem_cons.mpr ⟨pm_IO.fin fin_iret (ps_iret hx hb hr hlocks (by decide +kernel)), ?_⟩
  exact fun _ h => absurd h List.not_mem_nil
theorem ok_Cr_cellOf (hl9 : l.stackTraces = false) : pm_Ok l (pj_KF D aC z sa) D pj_cl z b aC pj_xn pj_mi (pj_P xs L) 97 :=
  pm_okW (ret := (Option.some Jvm.ClassFile.FieldType.int)) rfl rfl mi_Cr_cellOf rfl mo_Cr_cellOf (fun p e R s m args below meth c k0 s0 n0 hcx hno hF hz hf hlo => pm_B.tbl rfl (io_Cr_cellOf hl9 hcx hno hF hz hf hlo) (fun pc x ls h H locs LS cells slots q ce rest hl hq hS hk hs hn hce hcv hcl => ⟨fun pc1 i hM => (nomatch (show (Sum.inr true : (Nat × Nat) ⊕ Bool) = .inl (pc1, i) from hM)), fun _ => pm_pass hno hcx.2.2.2.2.1 hq hS hk hs hce hcv hcl⟩))
theorem mo_Mo_init_ : ∀ q ∈ tb_Mo_init, pm_MO q.2 := by
  unfold tb_Mo_init
  refine List.forall_mem_cons.mpr ⟨pm_MO.go (mo_aload _ _), ?_⟩
  refine List.forall_mem_cons.mpr ⟨pm_MO.go (mo_obj), ?_⟩
  refine List.forall_mem_cons.mpr ⟨pm_MO.go (mo_aload _ _), ?_⟩
  refine List.forall_mem_cons.mpr ⟨pm_MO.go (mo_c _ _), ?_⟩
  refine List.forall_mem_cons.mpr ⟨pm_MO.go (mo_newi), ?_⟩
  refine List.forall_mem_cons.mpr ⟨pm_MO.go (mo_put _ _ _), ?_⟩
  refine List.forall_mem_cons.mpr ⟨pm_MO.go (mo_aload _ _), ?_⟩
  refine List.forall_mem_cons.mpr ⟨pm_MO.go (mo_c _ _), ?_⟩
  refine List.forall_mem_cons.mpr ⟨pm_MO.go (mo_newi), ?_⟩
  refine List.forall_mem_cons.mpr ⟨pm_MO.go (mo_put _ _ _), ?_⟩
  refine List.forall_mem_cons.mpr ⟨pm_MO.go (mo_aload _ _), ?_⟩
  refine List.forall_mem_cons.mpr ⟨pm_MO.go (mo_c _ _), ?_⟩
  refine List.forall_mem_cons.mpr ⟨pm_MO.go (mo_put _ _ _), ?_⟩
  refine List.forall_mem_cons.mpr ⟨pm_MO.go (mo_aload _ _), ?_⟩
  refine List.forall_mem_cons.mpr ⟨pm_MO.go (mo_c _ _), ?_⟩
  refine List.forall_mem_cons.mpr ⟨pm_MO.go (mo_newz), ?_⟩
  refine List.forall_mem_cons.mpr ⟨pm_MO.go (mo_put _ _ _), ?_⟩
  refine List.forall_mem_cons.mpr ⟨pm_MO.go (mo_aload _ _), ?_⟩
  refine List.forall_mem_cons.mpr ⟨pm_MO.go (mo_c _ _), ?_⟩
  refine List.forall_mem_cons.mpr ⟨pm_MO.go (mo_newz), ?_⟩
  refine List.forall_mem_cons.mpr ⟨pm_MO.go (mo_put _ _ _), ?_⟩
  refine List.forall_mem_cons.mpr ⟨pm_MO.go (mo_aload _ _), ?_⟩
  refine List.forall_mem_cons.mpr ⟨pm_MO.go (mo_c _ _), ?_⟩
  refine List.forall_mem_cons.mpr ⟨pm_MO.go (mo_newi), ?_⟩
  refine List.forall_mem_cons.mpr ⟨pm_MO.go (mo_put _ _ _), ?_⟩
  refine List.forall_mem_cons.mpr ⟨pm_MO.go (mo_aload _ _), ?_⟩
  refine List.forall_mem_cons.mpr ⟨pm_MO.go (mo_c _ _), ?_⟩
  refine List.forall_mem_cons.mpr ⟨pm_MO.go (mo_put _ _ _), ?_⟩
  refine List.forall_mem_cons.mpr ⟨pm_MO.go (mo_aload _ _), ?_⟩
  refine List.forall_mem_cons.mpr ⟨pm_MO.go (mo_c _ _), ?_⟩
  refine List.forall_mem_cons.mpr ⟨pm_MO.go (mo_newi), ?_⟩
  refine List.forall_mem_cons.mpr ⟨pm_MO.go (mo_put _ _ _), ?_⟩
  refine List.forall_mem_cons.mpr ⟨pm_MO.go (mo_aload _ _), ?_⟩
  refine List.forall_mem_cons.mpr ⟨pm_MO.go (mo_c _ _), ?_⟩
  refine List.forall_mem_cons.mpr ⟨pm_MO.go (mo_newi), ?_⟩
  refine List.forall_mem_cons.mpr ⟨pm_MO.go (mo_put _ _ _), ?_⟩
  refine List.forall_mem_cons.mpr ⟨pm_MO.go (mo_aload _ _), ?_⟩
  refine List.forall_mem_cons.mpr ⟨pm_MO.go (mo_c _ _), ?_⟩
  refine List.forall_mem_cons.mpr ⟨pm_MO.go (mo_newi), ?_⟩
  refine List.forall_mem_cons.mpr ⟨pm_MO.go (mo_put _ _ _), ?_⟩
  refine List.forall_mem_cons.mpr ⟨pm_MO.go (mo_aload _ _), ?_⟩
  refine List.forall_mem_cons.mpr ⟨pm_MO.go (mo_c _ _), ?_⟩
  refine List.forall_mem_cons.mpr ⟨pm_MO.go (mo_newi), ?_⟩
  refine List.forall_mem_cons.mpr ⟨pm_MO.go (mo_put _ _ _), ?_⟩
  refine List.forall_mem_cons.mpr ⟨pm_MO.go (mo_aload _ _), ?_⟩
  refine List.forall_mem_cons.mpr ⟨pm_MO.go (mo_c _ _), ?_⟩
  refine List.forall_mem_cons.mpr ⟨pm_MO.go (mo_newi), ?_⟩
  refine List.forall_mem_cons.mpr ⟨pm_MO.go (mo_put _ _ _), ?_⟩
  refine List.forall_mem_cons.mpr ⟨pm_MO.go (mo_aload _ _), ?_⟩
  refine List.forall_mem_cons.mpr ⟨pm_MO.go (mo_c _ _), ?_⟩
  refine List.forall_mem_cons.mpr ⟨pm_MO.go (mo_newz), ?_⟩
  refine List.forall_mem_cons.mpr ⟨pm_MO.go (mo_put _ _ _), ?_⟩
  refine List.forall_mem_cons.mpr ⟨pm_MO.go (mo_aload _ _), ?_⟩
  refine List.forall_mem_cons.mpr ⟨pm_MO.go (mo_c _ _), ?_⟩
  refine List.forall_mem_cons.mpr ⟨pm_MO.go (mo_newi), ?_⟩
  refine List.forall_mem_cons.mpr ⟨pm_MO.go (mo_put _ _ _), ?_⟩
  refine List.forall_mem_cons.mpr ⟨pm_MO.go (mo_aload _ _), ?_⟩
  refine List.forall_mem_cons.mpr ⟨pm_MO.go (mo_c _ _), ?_⟩
  refine List.forall_mem_cons.mpr ⟨pm_MO.go (mo_newi), ?_⟩
  refine List.forall_mem_cons.mpr ⟨pm_MO.go (mo_put _ _ _), ?_⟩
  refine List.forall_mem_cons.mpr ⟨pm_MO.go (mo_aload _ _), ?_⟩
  refine List.forall_mem_cons.mpr ⟨pm_MO.go (mo_c _ _), ?_⟩
  refine List.forall_mem_cons.mpr ⟨pm_MO.go (mo_newi), ?_⟩
  refine List.forall_mem_cons.mpr ⟨pm_MO.go (mo_put _ _ _), ?_⟩
  refine List.forall_mem_cons.mpr ⟨pm_MO.go (mo_aload _ _), ?_⟩
  refine List.forall_mem_cons.mpr ⟨pm_MO.go (mo_c _ _), ?_⟩
  refine List.forall_mem_cons.mpr ⟨pm_MO.go (mo_newi), ?_⟩
  refine List.forall_mem_cons.mpr ⟨pm_MO.go (mo_put _ _ _), ?_⟩
  refine List.forall_mem_cons.mpr ⟨pm_MO.go (mo_aload _ _), ?_⟩
  refine List.forall_mem_cons.mpr ⟨pm_MO.go (mo_c _ _), ?_⟩
  refine List.forall_mem_cons.mpr ⟨pm_MO.go (mo_newi), ?_⟩
  refine List.forall_mem_cons.mpr ⟨pm_MO.go (mo_put _ _ _), ?_⟩
  refine List.forall_mem_cons.mpr ⟨pm_MO.go (mo_aload _ _), ?_⟩
  refine List.forall_mem_cons.mpr ⟨pm_MO.go (mo_c _ _), ?_⟩
  refine List.forall_mem_cons.mpr ⟨pm_MO.go (mo_newz), ?_⟩
  refine List.forall_mem_cons.mpr ⟨pm_MO.go (mo_put _ _ _), ?_⟩
  refine List.forall_mem_cons.mpr ⟨pm_MO.go (mo_aload _ _), ?_⟩
  refine List.forall_mem_cons.mpr ⟨pm_MO.go (mo_c _ _), ?_⟩
  refine List.forall_mem_cons.mpr ⟨pm_MO.go (mo_newi), ?_⟩
  refine List.forall_mem_cons.mpr ⟨pm_MO.go (mo_put _ _ _), ?_⟩
  refine List.forall_mem_cons.mpr ⟨pm_MO.go (mo_aload _ _), ?_⟩
  refine List.forall_mem_cons.mpr ⟨pm_MO.go (mo_c _ _), ?_⟩
  refine List.forall_mem_cons.mpr ⟨pm_MO.go (mo_newi), ?_⟩
  refine List.forall_mem_cons.mpr ⟨pm_MO.go (mo_put _ _ _), ?_⟩
  refine List.forall_mem_cons.mpr ⟨pm_MO.go (mo_aload _ _), ?_⟩
  refine List.forall_mem_cons.mpr ⟨pm_MO.go (mo_c _ _), ?_⟩
  refine List.forall_mem_cons.mpr ⟨pm_MO.go (mo_newi), ?_⟩
  refine List.forall_mem_cons.mpr ⟨pm_MO.go (mo_put _ _ _), ?_⟩
  refine List.forall_mem_cons.mpr ⟨pm_MO.go (mo_aload _ _), ?_⟩
  refine List.forall_mem_cons.mpr ⟨pm_MO.go (mo_c _ _), ?_⟩
  refine List.forall_mem_cons.mpr ⟨pm_MO.go (mo_newi), ?_⟩
  refine List.forall_mem_cons.mpr ⟨pm_MO.go (mo_put _ _ _), ?_⟩
  refine List.forall_mem_cons.mpr ⟨pm_MO.go (mo_aload _ _), ?_⟩
  refine List.forall_mem_cons.mpr ⟨pm_MO.go (mo_c _ _), ?_⟩
  refine List.forall_mem_cons.mpr ⟨pm_MO.go (mo_newi), ?_⟩
  refine List.forall_mem_cons.mpr ⟨pm_MO.go (mo_put _ _ _), ?_⟩
  refine List.forall_mem_cons.mpr ⟨pm_MO.go (mo_aload _ _), ?_⟩
  refine List.forall_mem_cons.mpr ⟨pm_MO.go (mo_c _ _), ?_⟩
  refine List.forall_mem_cons.mpr ⟨pm_MO.go (mo_newi), ?_⟩
  refine List.forall_mem_cons.mpr ⟨pm_MO.go (mo_put _ _ _), ?_⟩
  refine List.forall_mem_cons.mpr ⟨pm_MO.fin fin_vret, ?_⟩
  exact fun _ h => absurd h List.not_mem_nil
theorem mo_Mo_init : pm_MO M_Mo_init.1 := pm_MO.look mo_Mo_init_
set_option maxHeartbeats 4000000 in
theorem io_Mo_init (hl9 : l.stackTraces = false) (hcx : pm_cx p s m args meth c y_Mo_init prog_9_method_1_code 1 (Option.none : Option Jvm.ClassFile.FieldType) w_Mo_init) (hno : ∀ x ∈ c.exceptionTable.toList, False) (hF : pj_KF D aC z sa s) (hz : z ≤ s.heap.size ∧ n0 ≤ k0 ∧ (n0 = k0 → s.heap.size = z + n0)) (hf : 8 ≤ R.frames) (hlo : 256 ≤ R.locals) : ∀ q ∈ tb_Mo_init, pm_IO p l e R s m args below meth c D pj_cl z b aC k0 s0 n0 pj_mi (pm_Eo below D pj_cl z b aC pj_xn args s k0 s0) q := by
  obtain ⟨hx, hb, -, hr, hlocks, hname, hown, hts⟩ := hcx
  have hG : ∀ w ∈ pj_G, w.before args s = true := fun w h => hts w (List.mem_cons_of_mem _ h)
  have hname : meth.name = "<init>" := hname
  have hK := hF.1
  have hAO := hF.2.1
  have hSt := hF.2.2.2.2.1
  unfold tb_Mo_init
  refine List.forall_mem_cons.mpr ⟨pm_IO.go (ps_aload_n (kk := 0) hx hb rfl (by decide +kernel)), ?_⟩
  refine List.forall_mem_cons.mpr ⟨pm_IO.go (ps_obj hx hb hown (hG _ wi_804) (hG _ wi_25) (hG _ wi_obj) (by omega) (by omega) (by decide +kernel)), ?_⟩
  refine List.forall_mem_cons.mpr ⟨pm_IO.go (ps_aload_n (kk := 0) hx hb rfl (by decide +kernel)), ?_⟩
  refine List.forall_mem_cons.mpr ⟨pm_IO.go (ps_sipush hx hb (n := (160)) (v := (160)) (by decide +kernel) (by decide +kernel)), ?_⟩
  refine List.forall_mem_cons.mpr ⟨pm_IO.go (ps_newi hx hb (hG _ wi_101) hK 0 rfl hz (by decide +kernel)), ?_⟩
  refine List.forall_mem_cons.mpr ⟨pm_IO.go (ps_putF hx hb hG in_Mo ty_Mo tk_Mo nm_Mo hown hK (ci := 7) rfl 1 (by decide +kernel) (hG _ wi_806) (fun _ h9 => h9) rfl hname rfl pm_fit_arr (by decide +kernel)), ?_⟩
  refine List.forall_mem_cons.mpr ⟨pm_IO.go (ps_aload_n (kk := 0) hx hb rfl (by decide +kernel)), ?_⟩
  refine List.forall_mem_cons.mpr ⟨pm_IO.go (ps_sipush hx hb (n := (160)) (v := (160)) (by decide +kernel) (by decide +kernel)), ?_⟩
  refine List.forall_mem_cons.mpr ⟨pm_IO.go (ps_newi hx hb (hG _ wi_101) hK 0 rfl hz (by decide +kernel)), ?_⟩
  refine List.forall_mem_cons.mpr ⟨pm_IO.go (ps_putF hx hb hG in_Mo ty_Mo tk_Mo nm_Mo hown hK (ci := 7) rfl 3 (by decide +kernel) (hG _ wi_808) (fun _ h9 => h9) rfl hname rfl pm_fit_arr (by decide +kernel)), ?_⟩
  refine List.forall_mem_cons.mpr ⟨pm_IO.go (ps_aload_n (kk := 0) hx hb rfl (by decide +kernel)), ?_⟩
  refine List.forall_mem_cons.mpr ⟨pm_IO.go (ps_iconst hx hb (n := (-1)) (v := (-1)) (by decide +kernel) (by decide +kernel)), ?_⟩
  refine List.forall_mem_cons.mpr ⟨pm_IO.go (ps_put hx hb hG in_Mo ty_Mo tk_Mo nm_Mo hown hK (ci := 7) rfl 7 (by decide +kernel) (hG _ wi_812) (fun _ h9 => h9) rfl pm_fit_int (by decide +kernel)), ?_⟩
  refine List.forall_mem_cons.mpr ⟨pm_IO.go (ps_aload_n (kk := 0) hx hb rfl (by decide +kernel)), ?_⟩
  refine List.forall_mem_cons.mpr ⟨pm_IO.go (ps_bipush hx hb (n := (8)) (v := (8)) (by decide +kernel) (by decide +kernel)), ?_⟩
  refine List.forall_mem_cons.mpr ⟨pm_IO.go (ps_newz hx hb (hG _ wi_935) hK 2 rfl hz (by decide +kernel)), ?_⟩
  refine List.forall_mem_cons.mpr ⟨pm_IO.go (ps_putF hx hb hG in_Mo ty_Mo tk_Mo nm_Mo hown hK (ci := 7) rfl 8 (by decide +kernel) (hG _ wi_813) (fun _ h9 => h9) rfl hname rfl pm_fit_arr (by decide +kernel)), ?_⟩
  refine List.forall_mem_cons.mpr ⟨pm_IO.go (ps_aload_n (kk := 0) hx hb rfl (by decide +kernel)), ?_⟩
  refine List.forall_mem_cons.mpr ⟨pm_IO.go (ps_bipush hx hb (n := (8)) (v := (8)) (by decide +kernel) (by decide +kernel)), ?_⟩
  refine List.forall_mem_cons.mpr ⟨pm_IO.go (ps_newz hx hb (hG _ wi_935) hK 2 rfl hz (by decide +kernel)), ?_⟩
  refine List.forall_mem_cons.mpr ⟨pm_IO.go (ps_putF hx hb hG in_Mo ty_Mo tk_Mo nm_Mo hown hK (ci := 7) rfl 9 (by decide +kernel) (hG _ wi_814) (fun _ h9 => h9) rfl hname rfl pm_fit_arr (by decide +kernel)), ?_⟩
  refine List.forall_mem_cons.mpr ⟨pm_IO.go (ps_aload_n (kk := 0) hx hb rfl (by decide +kernel)), ?_⟩
  refine List.forall_mem_cons.mpr ⟨pm_IO.go (ps_bipush hx hb (n := (16)) (v := (16)) (by decide +kernel) (by decide +kernel)), ?_⟩
  refine List.forall_mem_cons.mpr ⟨pm_IO.go (ps_newi hx hb (hG _ wi_101) hK 0 rfl hz (by decide +kernel)), ?_⟩
  refine List.forall_mem_cons.mpr ⟨pm_IO.go (ps_putF hx hb hG in_Mo ty_Mo tk_Mo nm_Mo hown hK (ci := 7) rfl 11 (by decide +kernel) (hG _ wi_816) (fun _ h9 => h9) rfl hname rfl pm_fit_arr (by decide +kernel)), ?_⟩
  refine List.forall_mem_cons.mpr ⟨pm_IO.go (ps_aload_n (kk := 0) hx hb rfl (by decide +kernel)), ?_⟩
  refine List.forall_mem_cons.mpr ⟨pm_IO.go (ps_bipush hx hb (n := (8)) (v := (8)) (by decide +kernel) (by decide +kernel)), ?_⟩
  refine List.forall_mem_cons.mpr ⟨pm_IO.go (ps_put hx hb hG in_Mo ty_Mo tk_Mo nm_Mo hown hK (ci := 7) rfl 12 (by decide +kernel) (hG _ wi_817) (fun _ h9 => h9) rfl pm_fit_int (by decide +kernel)), ?_⟩
  refine List.forall_mem_cons.mpr ⟨pm_IO.go (ps_aload_n (kk := 0) hx hb rfl (by decide +kernel)), ?_⟩
  refine List.forall_mem_cons.mpr ⟨pm_IO.go (ps_sipush hx hb (n := (128)) (v := (128)) (by decide +kernel) (by decide +kernel)), ?_⟩
  refine List.forall_mem_cons.mpr ⟨pm_IO.go (ps_newi hx hb (hG _ wi_101) hK 0 rfl hz (by decide +kernel)), ?_⟩
  refine List.forall_mem_cons.mpr ⟨pm_IO.go (ps_putF hx hb hG in_Mo ty_Mo tk_Mo nm_Mo hown hK (ci := 7) rfl 13 (by decide +kernel) (hG _ wi_818) (fun _ h9 => h9) rfl hname rfl pm_fit_arr (by decide +kernel)), ?_⟩
  refine List.forall_mem_cons.mpr ⟨pm_IO.go (ps_aload_n (kk := 0) hx hb rfl (by decide +kernel)), ?_⟩
  refine List.forall_mem_cons.mpr ⟨pm_IO.go (ps_sipush hx hb (n := (128)) (v := (128)) (by decide +kernel) (by decide +kernel)), ?_⟩
  refine List.forall_mem_cons.mpr ⟨pm_IO.go (ps_newi hx hb (hG _ wi_101) hK 0 rfl hz (by decide +kernel)), ?_⟩
  refine List.forall_mem_cons.mpr ⟨pm_IO.go (ps_putF hx hb hG in_Mo ty_Mo tk_Mo nm_Mo hown hK (ci := 7) rfl 14 (by decide +kernel) (hG _ wi_819) (fun _ h9 => h9) rfl hname rfl pm_fit_arr (by decide +kernel)), ?_⟩
  refine List.forall_mem_cons.mpr ⟨pm_IO.go (ps_aload_n (kk := 0) hx hb rfl (by decide +kernel)), ?_⟩
  refine List.forall_mem_cons.mpr ⟨pm_IO.go (ps_sipush hx hb (n := (320)) (v := (320)) (by decide +kernel) (by decide +kernel)), ?_⟩
  refine List.forall_mem_cons.mpr ⟨pm_IO.go (ps_newi hx hb (hG _ wi_101) hK 0 rfl hz (by decide +kernel)), ?_⟩
  refine List.forall_mem_cons.mpr ⟨pm_IO.go (ps_putF hx hb hG in_Mo ty_Mo tk_Mo nm_Mo hown hK (ci := 7) rfl 15 (by decide +kernel) (hG _ wi_820) (fun _ h9 => h9) rfl hname rfl pm_fit_arr (by decide +kernel)), ?_⟩
  refine List.forall_mem_cons.mpr ⟨pm_IO.go (ps_aload_n (kk := 0) hx hb rfl (by decide +kernel)), ?_⟩
  refine List.forall_mem_cons.mpr ⟨pm_IO.go (ps_bipush hx hb (n := (16)) (v := (16)) (by decide +kernel) (by decide +kernel)), ?_⟩
  refine List.forall_mem_cons.mpr ⟨pm_IO.go (ps_newi hx hb (hG _ wi_101) hK 0 rfl hz (by decide +kernel)), ?_⟩
  refine List.forall_mem_cons.mpr ⟨pm_IO.go (ps_putF hx hb hG in_Mo ty_Mo tk_Mo nm_Mo hown hK (ci := 7) rfl 16 (by decide +kernel) (hG _ wi_821) (fun _ h9 => h9) rfl hname rfl pm_fit_arr (by decide +kernel)), ?_⟩
  refine List.forall_mem_cons.mpr ⟨pm_IO.go (ps_aload_n (kk := 0) hx hb rfl (by decide +kernel)), ?_⟩
  refine List.forall_mem_cons.mpr ⟨pm_IO.go (ps_bipush hx hb (n := (16)) (v := (16)) (by decide +kernel) (by decide +kernel)), ?_⟩
  refine List.forall_mem_cons.mpr ⟨pm_IO.go (ps_newi hx hb (hG _ wi_101) hK 0 rfl hz (by decide +kernel)), ?_⟩
  refine List.forall_mem_cons.mpr ⟨pm_IO.go (ps_putF hx hb hG in_Mo ty_Mo tk_Mo nm_Mo hown hK (ci := 7) rfl 17 (by decide +kernel) (hG _ wi_822) (fun _ h9 => h9) rfl hname rfl pm_fit_arr (by decide +kernel)), ?_⟩
  refine List.forall_mem_cons.mpr ⟨pm_IO.go (ps_aload_n (kk := 0) hx hb rfl (by decide +kernel)), ?_⟩
  refine List.forall_mem_cons.mpr ⟨pm_IO.go (ps_bipush hx hb (n := (16)) (v := (16)) (by decide +kernel) (by decide +kernel)), ?_⟩
  refine List.forall_mem_cons.mpr ⟨pm_IO.go (ps_newz hx hb (hG _ wi_935) hK 2 rfl hz (by decide +kernel)), ?_⟩
  refine List.forall_mem_cons.mpr ⟨pm_IO.go (ps_putF hx hb hG in_Mo ty_Mo tk_Mo nm_Mo hown hK (ci := 7) rfl 18 (by decide +kernel) (hG _ wi_823) (fun _ h9 => h9) rfl hname rfl pm_fit_arr (by decide +kernel)), ?_⟩
  refine List.forall_mem_cons.mpr ⟨pm_IO.go (ps_aload_n (kk := 0) hx hb rfl (by decide +kernel)), ?_⟩
  refine List.forall_mem_cons.mpr ⟨pm_IO.go (ps_bipush hx hb (n := (8)) (v := (8)) (by decide +kernel) (by decide +kernel)), ?_⟩
  refine List.forall_mem_cons.mpr ⟨pm_IO.go (ps_newi hx hb (hG _ wi_101) hK 0 rfl hz (by decide +kernel)), ?_⟩
  refine List.forall_mem_cons.mpr ⟨pm_IO.go (ps_putF hx hb hG in_Mo ty_Mo tk_Mo nm_Mo hown hK (ci := 7) rfl 29 (by decide +kernel) (hG _ wi_834) (fun _ h9 => h9) rfl hname rfl pm_fit_arr (by decide +kernel)), ?_⟩
  refine List.forall_mem_cons.mpr ⟨pm_IO.go (ps_aload_n (kk := 0) hx hb rfl (by decide +kernel)), ?_⟩
  refine List.forall_mem_cons.mpr ⟨pm_IO.go (ps_bipush hx hb (n := (8)) (v := (8)) (by decide +kernel) (by decide +kernel)), ?_⟩
  refine List.forall_mem_cons.mpr ⟨pm_IO.go (ps_newi hx hb (hG _ wi_101) hK 0 rfl hz (by decide +kernel)), ?_⟩
  refine List.forall_mem_cons.mpr ⟨pm_IO.go (ps_putF hx hb hG in_Mo ty_Mo tk_Mo nm_Mo hown hK (ci := 7) rfl 30 (by decide +kernel) (hG _ wi_835) (fun _ h9 => h9) rfl hname rfl pm_fit_arr (by decide +kernel)), ?_⟩
  refine List.forall_mem_cons.mpr ⟨pm_IO.go (ps_aload_n (kk := 0) hx hb rfl (by decide +kernel)), ?_⟩
  refine List.forall_mem_cons.mpr ⟨pm_IO.go (ps_bipush hx hb (n := (40)) (v := (40)) (by decide +kernel) (by decide +kernel)), ?_⟩
  refine List.forall_mem_cons.mpr ⟨pm_IO.go (ps_newi hx hb (hG _ wi_101) hK 0 rfl hz (by decide +kernel)), ?_⟩
  refine List.forall_mem_cons.mpr ⟨pm_IO.go (ps_putF hx hb hG in_Mo ty_Mo tk_Mo nm_Mo hown hK (ci := 7) rfl 31 (by decide +kernel) (hG _ wi_836) (fun _ h9 => h9) rfl hname rfl pm_fit_arr (by decide +kernel)), ?_⟩
  refine List.forall_mem_cons.mpr ⟨pm_IO.go (ps_aload_n (kk := 0) hx hb rfl (by decide +kernel)), ?_⟩
  refine List.forall_mem_cons.mpr ⟨pm_IO.go (ps_bipush hx hb (n := (8)) (v := (8)) (by decide +kernel) (by decide +kernel)), ?_⟩
  refine List.forall_mem_cons.mpr ⟨pm_IO.go (ps_newi hx hb (hG _ wi_101) hK 0 rfl hz (by decide +kernel)), ?_⟩
  refine List.forall_mem_cons.mpr ⟨pm_IO.go (ps_putF hx hb hG in_Mo ty_Mo tk_Mo nm_Mo hown hK (ci := 7) rfl 32 (by decide +kernel) (hG _ wi_837) (fun _ h9 => h9) rfl hname rfl pm_fit_arr (by decide +kernel)), ?_⟩
  refine List.forall_mem_cons.mpr ⟨pm_IO.go (ps_aload_n (kk := 0) hx hb rfl (by decide +kernel)), ?_⟩
  refine List.forall_mem_cons.mpr ⟨pm_IO.go (ps_bipush hx hb (n := (8)) (v := (8)) (by decide +kernel) (by decide +kernel)), ?_⟩
  refine List.forall_mem_cons.mpr ⟨pm_IO.go (ps_newi hx hb (hG _ wi_101) hK 0 rfl hz (by decide +kernel)), ?_⟩
  refine List.forall_mem_cons.mpr ⟨pm_IO.go (ps_putF hx hb hG in_Mo ty_Mo tk_Mo nm_Mo hown hK (ci := 7) rfl 33 (by decide +kernel) (hG _ wi_838) (fun _ h9 => h9) rfl hname rfl pm_fit_arr (by decide +kernel)), ?_⟩
  refine List.forall_mem_cons.mpr ⟨pm_IO.go (ps_aload_n (kk := 0) hx hb rfl (by decide +kernel)), ?_⟩
  refine List.forall_mem_cons.mpr ⟨pm_IO.go (ps_bipush hx hb (n := (8)) (v := (8)) (by decide +kernel) (by decide +kernel)), ?_⟩
  refine List.forall_mem_cons.mpr ⟨pm_IO.go (ps_newz hx hb (hG _ wi_935) hK 2 rfl hz (by decide +kernel)), ?_⟩
  refine List.forall_mem_cons.mpr ⟨pm_IO.go (ps_putF hx hb hG in_Mo ty_Mo tk_Mo nm_Mo hown hK (ci := 7) rfl 34 (by decide +kernel) (hG _ wi_839) (fun _ h9 => h9) rfl hname rfl pm_fit_arr (by decide +kernel)), ?_⟩
  refine List.forall_mem_cons.mpr ⟨pm_IO.go (ps_aload_n (kk := 0) hx hb rfl (by decide +kernel)), ?_⟩
  refine List.forall_mem_cons.mpr ⟨pm_IO.go (ps_iconst hx hb (n := (5)) (v := (5)) (by decide +kernel) (by decide +kernel)), ?_⟩
  refine List.forall_mem_cons.mpr ⟨pm_IO.go (ps_newi hx hb (hG _ wi_101) hK 0 rfl hz (by decide +kernel)), ?_⟩
  refine List.forall_mem_cons.mpr ⟨pm_IO.go (ps_putF hx hb hG in_Mo ty_Mo tk_Mo nm_Mo hown hK (ci := 7) rfl 37 (by decide +kernel) (hG _ wi_842) (fun _ h9 => h9) rfl hname rfl pm_fit_arr (by decide +kernel)), ?_⟩
  refine List.forall_mem_cons.mpr ⟨pm_IO.go (ps_aload_n (kk := 0) hx hb rfl (by decide +kernel)), ?_⟩
  refine List.forall_mem_cons.mpr ⟨pm_IO.go (ps_iconst hx hb (n := (5)) (v := (5)) (by decide +kernel) (by decide +kernel)), ?_⟩
  refine List.forall_mem_cons.mpr ⟨pm_IO.go (ps_newi hx hb (hG _ wi_101) hK 0 rfl hz (by decide +kernel)), ?_⟩
  refine List.forall_mem_cons.mpr ⟨pm_IO.go (ps_putF hx hb hG in_Mo ty_Mo tk_Mo nm_Mo hown hK (ci := 7) rfl 38 (by decide +kernel) (hG _ wi_843) (fun _ h9 => h9) rfl hname rfl pm_fit_arr (by decide +kernel)), ?_⟩
  refine List.forall_mem_cons.mpr ⟨pm_IO.go (ps_aload_n (kk := 0) hx hb rfl (by decide +kernel)), ?_⟩
  refine List.forall_mem_cons.mpr ⟨pm_IO.go (ps_iconst hx hb (n := (5)) (v := (5)) (by decide +kernel) (by decide +kernel)), ?_⟩
  refine List.forall_mem_cons.mpr ⟨pm_IO.go (ps_newi hx hb (hG _ wi_101) hK 0 rfl hz (by decide +kernel)), ?_⟩
  refine List.forall_mem_cons.mpr ⟨pm_IO.go (ps_putF hx hb hG in_Mo ty_Mo tk_Mo nm_Mo hown hK (ci := 7) rfl 39 (by decide +kernel) (hG _ wi_844) (fun _ h9 => h9) rfl hname rfl pm_fit_arr (by decide +kernel)), ?_⟩
  refine List.forall_mem_cons.mpr ⟨pm_IO.go (ps_aload_n (kk := 0) hx hb rfl (by decide +kernel)), ?_⟩
  refine List.forall_mem_cons.mpr ⟨pm_IO.go (ps_bipush hx hb (n := (6)) (v := (6)) (by decide +kernel) (by decide +kernel)), ?_⟩
  refine List.forall_mem_cons.mpr ⟨pm_IO.go (ps_newi hx hb (hG _ wi_101) hK 0 rfl hz (by decide +kernel)), ?_⟩
  refine List.forall_mem_cons.mpr ⟨pm_IO.go (ps_putF hx hb hG in_Mo ty_Mo tk_Mo nm_Mo hown hK (ci := 7) rfl 40 (by decide +kernel) (hG _ wi_845) (fun _ h9 => h9) rfl hname rfl pm_fit_arr (by decide +kernel)), ?_⟩
  refine List.forall_mem_cons.mpr ⟨pm_IO.go (ps_aload_n (kk := 0) hx hb rfl (by decide +kernel)), ?_⟩
  refine List.forall_mem_cons.mpr ⟨pm_IO.go (ps_bipush hx hb (n := (6)) (v := (6)) (by decide +kernel) (by decide +kernel)), ?_⟩
  refine List.forall_mem_cons.mpr ⟨pm_IO.go (ps_newi hx hb (hG _ wi_101) hK 0 rfl hz (by decide +kernel)), ?_⟩
  refine List.forall_mem_cons.mpr ⟨pm_IO.go (ps_putF hx hb hG in_Mo ty_Mo tk_Mo nm_Mo hown hK (ci := 7) rfl 41 (by decide +kernel) (hG _ wi_846) (fun _ h9 => h9) rfl hname rfl pm_fit_arr (by decide +kernel)), ?_⟩
  refine List.forall_mem_cons.mpr ⟨pm_IO.go (ps_aload_n (kk := 0) hx hb rfl (by decide +kernel)), ?_⟩
  refine List.forall_mem_cons.mpr ⟨pm_IO.go (ps_bipush hx hb (n := (6)) (v := (6)) (by decide +kernel) (by decide +kernel)), ?_⟩
  refine List.forall_mem_cons.mpr ⟨pm_IO.go (ps_newi hx hb (hG _ wi_101) hK 0 rfl hz (by decide +kernel)), ?_⟩
  refine List.forall_mem_cons.mpr ⟨pm_IO.go (ps_putF hx hb hG in_Mo ty_Mo tk_Mo nm_Mo hown hK (ci := 7) rfl 42 (by decide +kernel) (hG _ wi_847) (fun _ h9 => h9) rfl hname rfl pm_fit_arr (by decide +kernel)), ?_⟩
  refine List.forall_mem_cons.mpr ⟨pm_IO.fin fin_vret (ps_vret hx hb hr hlocks (by decide +kernel)), ?_⟩
  exact fun _ h => absurd h List.not_mem_nil
theorem ok_Mo_init (hl9 : l.stackTraces = false) : pm_Ok l (pj_KF D aC z sa) D pj_cl z b aC pj_xn pj_mi (pj_P xs L) 98 :=
  pm_okW (ret := (Option.none : Option Jvm.ClassFile.FieldType)) rfl rfl mi_Mo_init rfl mo_Mo_init (fun p e R s m args below meth c k0 s0 n0 hcx hno hF hz hf hlo => pm_B.tbl rfl (io_Mo_init hl9 hcx hno hF hz hf hlo) (fun pc x ls h H locs LS cells slots q ce rest hl hq hS hk hs hn hce hcv hcl => ⟨fun pc1 i hM => (nomatch (show (Sum.inr true : (Nat × Nat) ⊕ Bool) = .inl (pc1, i) from hM)), fun _ => pm_pass hno hcx.2.2.2.2.1 hq hS hk hs hce hcv hcl⟩))
theorem mo_Mo_thrown_ : ∀ q ∈ tb_Mo_thrown, pm_MO q.2 := by
  unfold tb_Mo_thrown
  refine List.forall_mem_cons.mpr ⟨pm_MO.go (mo_aload _ _), ?_⟩
  refine List.forall_mem_cons.mpr ⟨pm_MO.go (mo_get _ _), ?_⟩
  refine List.forall_mem_cons.mpr ⟨pm_MO.fin fin_iret, ?_⟩
  exact fun _ h => absurd h List.not_mem_nil
theorem mo_Mo_thrown : pm_MO M_Mo_thrown.1 := pm_MO.look mo_Mo_thrown_
set_option maxHeartbeats 4000000 in
theorem io_Mo_thrown (hl9 : l.stackTraces = false) (hcx : pm_cx p s m args meth c y_Mo_thrown prog_9_method_2_code 1 (Option.some Jvm.ClassFile.FieldType.int) w_Mo_thrown) (hno : ∀ x ∈ c.exceptionTable.toList, False) (hF : pj_KF D aC z sa s) (hz : z ≤ s.heap.size ∧ n0 ≤ k0 ∧ (n0 = k0 → s.heap.size = z + n0)) (hf : 8 ≤ R.frames) (hlo : 256 ≤ R.locals) : ∀ q ∈ tb_Mo_thrown, pm_IO p l e R s m args below meth c D pj_cl z b aC k0 s0 n0 pj_mi (pm_Eo below D pj_cl z b aC pj_xn args s k0 s0) q := by
  obtain ⟨hx, hb, -, hr, hlocks, hname, hown, hts⟩ := hcx
  have hG : ∀ w ∈ pj_G, w.before args s = true := fun w h => hts w (List.mem_cons_of_mem _ h)
  have hK := hF.1
  have hAO := hF.2.1
  have hSt := hF.2.2.2.2.1
  unfold tb_Mo_thrown
  refine List.forall_mem_cons.mpr ⟨pm_IO.go (ps_aload_n (kk := 0) hx hb rfl (by decide +kernel)), ?_⟩
  refine List.forall_mem_cons.mpr ⟨pm_IO.go (ps_get hx hb hG in_Mo hown hK (ci := 7) rfl 0 (by decide +kernel) (hG _ wi_805) (fun _ h9 => h9) (by decide +kernel)), ?_⟩
  refine List.forall_mem_cons.mpr ⟨pm_IO.fin fin_iret (ps_iret hx hb hr hlocks (by decide +kernel)), ?_⟩
  exact fun _ h => absurd h List.not_mem_nil
theorem ok_Mo_thrown (hl9 : l.stackTraces = false) : pm_Ok l (pj_KF D aC z sa) D pj_cl z b aC pj_xn pj_mi (pj_P xs L) 99 :=
  pm_okW (ret := (Option.some Jvm.ClassFile.FieldType.int)) rfl rfl mi_Mo_thrown rfl mo_Mo_thrown (fun p e R s m args below meth c k0 s0 n0 hcx hno hF hz hf hlo => pm_B.tbl rfl (io_Mo_thrown hl9 hcx hno hF hz hf hlo) (fun pc x ls h H locs LS cells slots q ce rest hl hq hS hk hs hn hce hcv hcl => ⟨fun pc1 i hM => (nomatch (show (Sum.inr true : (Nat × Nat) ⊕ Bool) = .inl (pc1, i) from hM)), fun _ => pm_pass hno hcx.2.2.2.2.1 hq hS hk hs hce hcv hcl⟩))
theorem mo_Mo_type_ : ∀ q ∈ tb_Mo_type, pm_MO q.2 := by
  unfold tb_Mo_type
  refine List.forall_mem_cons.mpr ⟨pm_MO.go (mo_iload _ _), ?_⟩
  refine List.forall_mem_cons.mpr ⟨pm_MO.go (mo_c _ _), ?_⟩
  refine List.forall_mem_cons.mpr ⟨pm_MO.go (mo_c _ _), ?_⟩
  refine List.forall_mem_cons.mpr ⟨mo_call _ _, ?_⟩
  refine List.forall_mem_cons.mpr ⟨pm_MO.go (mo_istore _ _), ?_⟩
  refine List.forall_mem_cons.mpr ⟨pm_MO.go (mo_c _ _), ?_⟩
  refine List.forall_mem_cons.mpr ⟨pm_MO.go (mo_istore _ _), ?_⟩
  refine List.forall_mem_cons.mpr ⟨pm_MO.go (mo_iload _ _), ?_⟩
  refine List.forall_mem_cons.mpr ⟨pm_MO.go (mo_iload _ _), ?_⟩
  refine List.forall_mem_cons.mpr ⟨pm_MO.go (mo_icmp _ _), ?_⟩
  refine List.forall_mem_cons.mpr ⟨pm_MO.go (mo_iload _ _), ?_⟩
  refine List.forall_mem_cons.mpr ⟨pm_MO.go (mo_if _ _), ?_⟩
  refine List.forall_mem_cons.mpr ⟨pm_MO.go (mo_lload _ _), ?_⟩
  refine List.forall_mem_cons.mpr ⟨pm_MO.go (mo_c _ _), ?_⟩
  refine List.forall_mem_cons.mpr ⟨pm_MO.go (mo_iload _ _), ?_⟩
  refine List.forall_mem_cons.mpr ⟨pm_MO.go (mo_i2 _), ?_⟩
  refine List.forall_mem_cons.mpr ⟨pm_MO.go (mo_ls _), ?_⟩
  refine List.forall_mem_cons.mpr ⟨pm_MO.go (mo_c _ _), ?_⟩
  refine List.forall_mem_cons.mpr ⟨pm_MO.go (mo_l2 _), ?_⟩
  refine List.forall_mem_cons.mpr ⟨pm_MO.go (mo_li _), ?_⟩
  refine List.forall_mem_cons.mpr ⟨pm_MO.go (mo_c _ _), ?_⟩
  refine List.forall_mem_cons.mpr ⟨pm_MO.go (mo_c _ _), ?_⟩
  refine List.forall_mem_cons.mpr ⟨mo_call _ _, ?_⟩
  refine List.forall_mem_cons.mpr ⟨pm_MO.go (mo_istore _ _), ?_⟩
  refine List.forall_mem_cons.mpr ⟨pm_MO.go (mo_iinc _ _ _), ?_⟩
  refine List.forall_mem_cons.mpr ⟨pm_MO.go (mo_goto _), ?_⟩
  refine List.forall_mem_cons.mpr ⟨pm_MO.go (mo_aload _ _), ?_⟩
  refine List.forall_mem_cons.mpr ⟨pm_MO.go (mo_iload _ _), ?_⟩
  refine List.forall_mem_cons.mpr ⟨pm_MO.go (mo_iload _ _), ?_⟩
  refine List.forall_mem_cons.mpr ⟨pm_MO.go (mo_if _ _), ?_⟩
  refine List.forall_mem_cons.mpr ⟨pm_MO.go (mo_aload _ _), ?_⟩
  refine List.forall_mem_cons.mpr ⟨pm_MO.go (mo_get _ _), ?_⟩
  refine List.forall_mem_cons.mpr ⟨pm_MO.go (mo_iload _ _), ?_⟩
  refine List.forall_mem_cons.mpr ⟨pm_MO.go (mo_i2 _), ?_⟩
  refine List.forall_mem_cons.mpr ⟨pm_MO.go (mo_c _ _), ?_⟩
  refine List.forall_mem_cons.mpr ⟨pm_MO.go (mo_icmp _ _), ?_⟩
  refine List.forall_mem_cons.mpr ⟨pm_MO.go (mo_c _ _), ?_⟩
  refine List.forall_mem_cons.mpr ⟨pm_MO.go (mo_goto _), ?_⟩
  refine List.forall_mem_cons.mpr ⟨pm_MO.go (mo_c _ _), ?_⟩
  refine List.forall_mem_cons.mpr ⟨pm_MO.go (mo_c _ _), ?_⟩
  refine List.forall_mem_cons.mpr ⟨mo_callv _ _ _, ?_⟩
  refine List.forall_mem_cons.mpr ⟨pm_MO.go (mo_if _ _), ?_⟩
  refine List.forall_mem_cons.mpr ⟨pm_MO.go (mo_c _ _), ?_⟩
  refine List.forall_mem_cons.mpr ⟨pm_MO.fin fin_iret, ?_⟩
  refine List.forall_mem_cons.mpr ⟨pm_MO.go (mo_iload _ _), ?_⟩
  refine List.forall_mem_cons.mpr ⟨pm_MO.go (mo_c _ _), ?_⟩
  refine List.forall_mem_cons.mpr ⟨pm_MO.go (mo_i2 _), ?_⟩
  refine List.forall_mem_cons.mpr ⟨pm_MO.go (mo_istore _ _), ?_⟩
  refine List.forall_mem_cons.mpr ⟨pm_MO.go (mo_iload _ _), ?_⟩
  refine List.forall_mem_cons.mpr ⟨pm_MO.go (mo_if _ _), ?_⟩
  refine List.forall_mem_cons.mpr ⟨pm_MO.go (mo_aload _ _), ?_⟩
  refine List.forall_mem_cons.mpr ⟨pm_MO.go (mo_get _ _), ?_⟩
  refine List.forall_mem_cons.mpr ⟨pm_MO.go (mo_aload _ _), ?_⟩
  refine List.forall_mem_cons.mpr ⟨pm_MO.go (mo_get _ _), ?_⟩
  refine List.forall_mem_cons.mpr ⟨pm_MO.go (mo_lload _ _), ?_⟩
  refine List.forall_mem_cons.mpr ⟨pm_MO.go (mo_c _ _), ?_⟩
  refine List.forall_mem_cons.mpr ⟨pm_MO.go (mo_iload _ _), ?_⟩
  refine List.forall_mem_cons.mpr ⟨pm_MO.go (mo_i2 _), ?_⟩
  refine List.forall_mem_cons.mpr ⟨pm_MO.go (mo_ls _), ?_⟩
  refine List.forall_mem_cons.mpr ⟨pm_MO.go (mo_c _ _), ?_⟩
  refine List.forall_mem_cons.mpr ⟨pm_MO.go (mo_l2 _), ?_⟩
  refine List.forall_mem_cons.mpr ⟨pm_MO.go (mo_li _), ?_⟩
  refine List.forall_mem_cons.mpr ⟨pm_MO.go (mo_iast), ?_⟩
  refine List.forall_mem_cons.mpr ⟨pm_MO.go (mo_aload _ _), ?_⟩
  refine List.forall_mem_cons.mpr ⟨pm_MO.go (mo_dup), ?_⟩
  refine List.forall_mem_cons.mpr ⟨pm_MO.go (mo_get _ _), ?_⟩
  refine List.forall_mem_cons.mpr ⟨pm_MO.go (mo_c _ _), ?_⟩
  refine List.forall_mem_cons.mpr ⟨pm_MO.go (mo_i2 _), ?_⟩
  refine List.forall_mem_cons.mpr ⟨pm_MO.go (mo_put _ _ _), ?_⟩
  refine List.forall_mem_cons.mpr ⟨pm_MO.go (mo_iinc _ _ _), ?_⟩
  refine List.forall_mem_cons.mpr ⟨pm_MO.go (mo_goto _), ?_⟩
  refine List.forall_mem_cons.mpr ⟨pm_MO.go (mo_aload _ _), ?_⟩
  refine List.forall_mem_cons.mpr ⟨pm_MO.go (mo_get _ _), ?_⟩
  refine List.forall_mem_cons.mpr ⟨pm_MO.fin fin_iret, ?_⟩
  exact fun _ h => absurd h List.not_mem_nil
theorem mo_Mo_type : pm_MO M_Mo_type.1 := pm_MO.look mo_Mo_type_
set_option maxHeartbeats 4000000 in
theorem io_Mo_type (hl9 : l.stackTraces = false) (hcx : pm_cx p s m args meth c y_Mo_type prog_9_method_5_code 6 (Option.some Jvm.ClassFile.FieldType.int) w_Mo_type) (hno : ∀ x ∈ c.exceptionTable.toList, False) (hF : pj_KF D aC z sa s) (hz : z ≤ s.heap.size ∧ n0 ≤ k0 ∧ (n0 = k0 → s.heap.size = z + n0)) (hf : 8 ≤ R.frames) (hlo : 256 ≤ R.locals) : ∀ q ∈ tb_Mo_type, pm_IO p l e R s m args below meth c D pj_cl z b aC k0 s0 n0 pj_mi (pm_Eo below D pj_cl z b aC pj_xn args s k0 s0) q := by
  obtain ⟨hx, hb, -, hr, hlocks, hname, hown, hts⟩ := hcx
  have hG : ∀ w ∈ pj_G, w.before args s = true := fun w h => hts w (List.mem_cons_of_mem _ h)
  have hK := hF.1
  have hAO := hF.2.1
  have hSt := hF.2.2.2.2.1
  unfold tb_Mo_type
  refine List.forall_mem_cons.mpr ⟨pm_IO.go (ps_iload_n (kk := 3) hx hb rfl (by decide +kernel)), ?_⟩
  refine List.forall_mem_cons.mpr ⟨pm_IO.go (ps_iconst hx hb (n := (1)) (v := (1)) (by decide +kernel) (by decide +kernel)), ?_⟩
  refine List.forall_mem_cons.mpr ⟨pm_IO.go (ps_bipush hx hb (n := (8)) (v := (8)) (by decide +kernel) (by decide +kernel)), ?_⟩
  refine List.forall_mem_cons.mpr ⟨pl_S hx hb hown (hG _ wi_944) (hG _ wi_945) (hG _ wi_8) (sg_Mo_beyond hG) (nd_Mo_beyond hG) (by decide +kernel) (n := 3) (by decide +kernel) (cw_Mo_beyond hG) mi_Mo_beyond (by decide +kernel), ?_⟩
  refine List.forall_mem_cons.mpr ⟨pm_IO.go (ps_istore hx hb (by decide +kernel)), ?_⟩
  refine List.forall_mem_cons.mpr ⟨pm_IO.go (ps_iconst hx hb (n := (0)) (v := (0)) (by decide +kernel) (by decide +kernel)), ?_⟩
  refine List.forall_mem_cons.mpr ⟨pm_IO.go (ps_istore hx hb (by decide +kernel)), ?_⟩
  refine List.forall_mem_cons.mpr ⟨pm_IO.go (ps_iload hx hb (by decide +kernel)), ?_⟩
  refine List.forall_mem_cons.mpr ⟨pm_IO.go (ps_iload_n (kk := 3) hx hb rfl (by decide +kernel)), ?_⟩
  refine List.forall_mem_cons.mpr ⟨pm_IO.go (ps_icmp_ge hx hb (off := 35) (by decide +kernel) (by decide +kernel)), ?_⟩
  refine List.forall_mem_cons.mpr ⟨pm_IO.go (ps_iload hx hb (by decide +kernel)), ?_⟩
  refine List.forall_mem_cons.mpr ⟨pm_IO.go (ps_if_ne hx hb (off := 30) (by decide +kernel) (by decide +kernel)), ?_⟩
  refine List.forall_mem_cons.mpr ⟨pm_IO.go (ps_lload_n (kk := 1) hx hb rfl (by decide +kernel)), ?_⟩
  refine List.forall_mem_cons.mpr ⟨pm_IO.go (ps_bipush hx hb (n := (8)) (v := (8)) (by decide +kernel) (by decide +kernel)), ?_⟩
  refine List.forall_mem_cons.mpr ⟨pm_IO.go (ps_iload hx hb (by decide +kernel)), ?_⟩
  refine List.forall_mem_cons.mpr ⟨pm_IO.go (ps_imul hx hb (by decide +kernel)), ?_⟩
  refine List.forall_mem_cons.mpr ⟨pm_IO.go (ps_lshr hx hb (by decide +kernel)), ?_⟩
  refine List.forall_mem_cons.mpr ⟨pm_IO.go (ps_ldc2 hx hb hown (hG _ wi_947) (by decide +kernel)), ?_⟩
  refine List.forall_mem_cons.mpr ⟨pm_IO.go (ps_land hx hb (by decide +kernel)), ?_⟩
  refine List.forall_mem_cons.mpr ⟨pm_IO.go (ps_l2i hx hb (by decide +kernel)), ?_⟩
  refine List.forall_mem_cons.mpr ⟨pm_IO.go (ps_bipush hx hb (n := (33)) (v := (33)) (by decide +kernel) (by decide +kernel)), ?_⟩
  refine List.forall_mem_cons.mpr ⟨pm_IO.go (ps_bipush hx hb (n := (126)) (v := (126)) (by decide +kernel) (by decide +kernel)), ?_⟩
  refine List.forall_mem_cons.mpr ⟨pl_S hx hb hown (hG _ wi_944) (hG _ wi_945) (hG _ wi_8) (sg_Mo_beyond hG) (nd_Mo_beyond hG) (by decide +kernel) (n := 3) (by decide +kernel) (cw_Mo_beyond hG) mi_Mo_beyond (by decide +kernel), ?_⟩
  refine List.forall_mem_cons.mpr ⟨pm_IO.go (ps_istore hx hb (by decide +kernel)), ?_⟩
  refine List.forall_mem_cons.mpr ⟨pm_IO.go (ps_iinc hx hb (n := (1)) (v := (1)) (by decide +kernel) (by decide +kernel)), ?_⟩
  refine List.forall_mem_cons.mpr ⟨pm_IO.go (ps_goto hx hb (off := -35) (by decide +kernel) (by decide +kernel)), ?_⟩
  refine List.forall_mem_cons.mpr ⟨pm_IO.go (ps_aload_n (kk := 0) hx hb rfl (by decide +kernel)), ?_⟩
  refine List.forall_mem_cons.mpr ⟨pm_IO.go (ps_iload hx hb (by decide +kernel)), ?_⟩
  refine List.forall_mem_cons.mpr ⟨pm_IO.go (ps_iload hx hb (by decide +kernel)), ?_⟩
  refine List.forall_mem_cons.mpr ⟨pm_IO.go (ps_if_ne hx hb (off := 19) (by decide +kernel) (by decide +kernel)), ?_⟩
  refine List.forall_mem_cons.mpr ⟨pm_IO.go (ps_aload_n (kk := 0) hx hb rfl (by decide +kernel)), ?_⟩
  refine List.forall_mem_cons.mpr ⟨pm_IO.go (ps_get hx hb hG in_Mo hown hK (ci := 7) rfl 2 (by decide +kernel) (hG _ wi_807) (fun _ h9 => h9) (by decide +kernel)), ?_⟩
  refine List.forall_mem_cons.mpr ⟨pm_IO.go (ps_iload_n (kk := 3) hx hb rfl (by decide +kernel)), ?_⟩
  refine List.forall_mem_cons.mpr ⟨pm_IO.go (ps_iadd hx hb (by decide +kernel)), ?_⟩
  refine List.forall_mem_cons.mpr ⟨pm_IO.go (ps_sipush hx hb (n := (160)) (v := (160)) (by decide +kernel) (by decide +kernel)), ?_⟩
  refine List.forall_mem_cons.mpr ⟨pm_IO.go (ps_icmp_le hx hb (off := 7) (by decide +kernel) (by decide +kernel)), ?_⟩
  refine List.forall_mem_cons.mpr ⟨pm_IO.go (ps_iconst hx hb (n := (1)) (v := (1)) (by decide +kernel) (by decide +kernel)), ?_⟩
  refine List.forall_mem_cons.mpr ⟨pm_IO.go (ps_goto hx hb (off := 4) (by decide +kernel) (by decide +kernel)), ?_⟩
  refine List.forall_mem_cons.mpr ⟨pm_IO.go (ps_iconst hx hb (n := (0)) (v := (0)) (by decide +kernel) (by decide +kernel)), ?_⟩
  refine List.forall_mem_cons.mpr ⟨pm_IO.go (ps_iconst hx hb (n := (0)) (v := (0)) (by decide +kernel) (by decide +kernel)), ?_⟩
  refine List.forall_mem_cons.mpr ⟨pl_V hx hb hown (hG _ wi_948) (hG _ wi_950) (hG _ ws_Mo_throwing) (sg_Mo_throwing hG) (by decide +kernel) hK (ci := 7) rfl rfl (n := 3) (by decide +kernel) (cw_Mo_throwing hG) mi_Mo_throwing (by decide +kernel), ?_⟩
  refine List.forall_mem_cons.mpr ⟨pm_IO.go (ps_if_eq hx hb (off := 5) (by decide +kernel) (by decide +kernel)), ?_⟩
  refine List.forall_mem_cons.mpr ⟨pm_IO.go (ps_iconst hx hb (n := (0)) (v := (0)) (by decide +kernel) (by decide +kernel)), ?_⟩
  refine List.forall_mem_cons.mpr ⟨pm_IO.fin fin_iret (ps_iret hx hb hr hlocks (by decide +kernel)), ?_⟩
  refine List.forall_mem_cons.mpr ⟨pm_IO.go (ps_iload_n (kk := 3) hx hb rfl (by decide +kernel)), ?_⟩
  refine List.forall_mem_cons.mpr ⟨pm_IO.go (ps_iconst hx hb (n := (1)) (v := (1)) (by decide +kernel) (by decide +kernel)), ?_⟩
  refine List.forall_mem_cons.mpr ⟨pm_IO.go (ps_isub hx hb (by decide +kernel)), ?_⟩
  refine List.forall_mem_cons.mpr ⟨pm_IO.go (ps_istore hx hb (by decide +kernel)), ?_⟩
  refine List.forall_mem_cons.mpr ⟨pm_IO.go (ps_iload hx hb (by decide +kernel)), ?_⟩
  refine List.forall_mem_cons.mpr ⟨pm_IO.go (ps_if_lt hx hb (off := 40) (by decide +kernel) (by decide +kernel)), ?_⟩
  refine List.forall_mem_cons.mpr ⟨pm_IO.go (ps_aload_n (kk := 0) hx hb rfl (by decide +kernel)), ?_⟩
  refine List.forall_mem_cons.mpr ⟨pm_IO.go (ps_get hx hb hG in_Mo hown hK (ci := 7) rfl 1 (by decide +kernel) (hG _ wi_806) (fun _ h9 => h9) (by decide +kernel)), ?_⟩
  refine List.forall_mem_cons.mpr ⟨pm_IO.go (ps_aload_n (kk := 0) hx hb rfl (by decide +kernel)), ?_⟩
  refine List.forall_mem_cons.mpr ⟨pm_IO.go (ps_get hx hb hG in_Mo hown hK (ci := 7) rfl 2 (by decide +kernel) (hG _ wi_807) (fun _ h9 => h9) (by decide +kernel)), ?_⟩
  refine List.forall_mem_cons.mpr ⟨pm_IO.go (ps_lload_n (kk := 1) hx hb rfl (by decide +kernel)), ?_⟩
  refine List.forall_mem_cons.mpr ⟨pm_IO.go (ps_bipush hx hb (n := (8)) (v := (8)) (by decide +kernel) (by decide +kernel)), ?_⟩
  refine List.forall_mem_cons.mpr ⟨pm_IO.go (ps_iload hx hb (by decide +kernel)), ?_⟩
  refine List.forall_mem_cons.mpr ⟨pm_IO.go (ps_imul hx hb (by decide +kernel)), ?_⟩
  refine List.forall_mem_cons.mpr ⟨pm_IO.go (ps_lshr hx hb (by decide +kernel)), ?_⟩
  refine List.forall_mem_cons.mpr ⟨pm_IO.go (ps_ldc2 hx hb hown (hG _ wi_947) (by decide +kernel)), ?_⟩
  refine List.forall_mem_cons.mpr ⟨pm_IO.go (ps_land hx hb (by decide +kernel)), ?_⟩
  refine List.forall_mem_cons.mpr ⟨pm_IO.go (ps_l2i hx hb (by decide +kernel)), ?_⟩
  refine List.forall_mem_cons.mpr ⟨pm_IO.go (ps_iast hx hb hK 0 rfl (by decide +kernel)), ?_⟩
  refine List.forall_mem_cons.mpr ⟨pm_IO.go (ps_aload_n (kk := 0) hx hb rfl (by decide +kernel)), ?_⟩
  refine List.forall_mem_cons.mpr ⟨pm_IO.go (ps_dup hx hb (by decide +kernel)), ?_⟩
  refine List.forall_mem_cons.mpr ⟨pm_IO.go (ps_get hx hb hG in_Mo hown hK (ci := 7) rfl 2 (by decide +kernel) (hG _ wi_807) (fun _ h9 => h9) (by decide +kernel)), ?_⟩
  refine List.forall_mem_cons.mpr ⟨pm_IO.go (ps_iconst hx hb (n := (1)) (v := (1)) (by decide +kernel) (by decide +kernel)), ?_⟩
  refine List.forall_mem_cons.mpr ⟨pm_IO.go (ps_iadd hx hb (by decide +kernel)), ?_⟩
  refine List.forall_mem_cons.mpr ⟨pm_IO.go (ps_put hx hb hG in_Mo ty_Mo tk_Mo nm_Mo hown hK (ci := 7) rfl 2 (by decide +kernel) (hG _ wi_807) (fun _ h9 => h9) rfl pm_fit_int (by decide +kernel)), ?_⟩
  refine List.forall_mem_cons.mpr ⟨pm_IO.go (ps_iinc hx hb (n := (-1)) (v := (-1)) (by decide +kernel) (by decide +kernel)), ?_⟩
  refine List.forall_mem_cons.mpr ⟨pm_IO.go (ps_goto hx hb (off := -39) (by decide +kernel) (by decide +kernel)), ?_⟩
  refine List.forall_mem_cons.mpr ⟨pm_IO.go (ps_aload_n (kk := 0) hx hb rfl (by decide +kernel)), ?_⟩
  refine List.forall_mem_cons.mpr ⟨pm_IO.go (ps_get hx hb hG in_Mo hown hK (ci := 7) rfl 2 (by decide +kernel) (hG _ wi_807) (fun _ h9 => h9) (by decide +kernel)), ?_⟩
  refine List.forall_mem_cons.mpr ⟨pm_IO.fin fin_iret (ps_iret hx hb hr hlocks (by decide +kernel)), ?_⟩
  exact fun _ h => absurd h List.not_mem_nil
theorem ok_Mo_type (hl9 : l.stackTraces = false) : pm_Ok l (pj_KF D aC z sa) D pj_cl z b aC pj_xn pj_mi (pj_P xs L) 100 :=
  pm_okW (ret := (Option.some Jvm.ClassFile.FieldType.int)) rfl rfl mi_Mo_type rfl mo_Mo_type (fun p e R s m args below meth c k0 s0 n0 hcx hno hF hz hf hlo => pm_B.tbl rfl (io_Mo_type hl9 hcx hno hF hz hf hlo) (fun pc x ls h H locs LS cells slots q ce rest hl hq hS hk hs hn hce hcv hcl => ⟨fun pc1 i hM => (nomatch (show (Sum.inr true : (Nat × Nat) ⊕ Bool) = .inl (pc1, i) from hM)), fun _ => pm_pass hno hcx.2.2.2.2.1 hq hS hk hs hce hcv hcl⟩))
theorem mo_Mo_beyond_ : ∀ q ∈ tb_Mo_beyond, pm_MO q.2 := by
  unfold tb_Mo_beyond
  refine List.forall_mem_cons.mpr ⟨pm_MO.go (mo_iload _ _), ?_⟩
  refine List.forall_mem_cons.mpr ⟨pm_MO.go (mo_iload _ _), ?_⟩
  refine List.forall_mem_cons.mpr ⟨pm_MO.go (mo_icmp _ _), ?_⟩
  refine List.forall_mem_cons.mpr ⟨pm_MO.go (mo_iload _ _), ?_⟩
  refine List.forall_mem_cons.mpr ⟨pm_MO.go (mo_iload _ _), ?_⟩
  refine List.forall_mem_cons.mpr ⟨pm_MO.go (mo_icmp _ _), ?_⟩
  refine List.forall_mem_cons.mpr ⟨pm_MO.go (mo_c _ _), ?_⟩
  refine List.forall_mem_cons.mpr ⟨pm_MO.go (mo_goto _), ?_⟩
  refine List.forall_mem_cons.mpr ⟨pm_MO.go (mo_c _ _), ?_⟩
  refine List.forall_mem_cons.mpr ⟨pm_MO.fin fin_zret, ?_⟩
  exact fun _ h => absurd h List.not_mem_nil
theorem mo_Mo_beyond : pm_MO M_Mo_beyond.1 := pm_MO.look mo_Mo_beyond_
set_option maxHeartbeats 4000000 in
theorem io_Mo_beyond (hl9 : l.stackTraces = false) (hcx : pm_cx p s m args meth c y_Mo_beyond prog_9_method_4_code 3 (Option.some Jvm.ClassFile.FieldType.boolean) w_Mo_beyond) (hno : ∀ x ∈ c.exceptionTable.toList, False) (hF : pj_KF D aC z sa s) (hz : z ≤ s.heap.size ∧ n0 ≤ k0 ∧ (n0 = k0 → s.heap.size = z + n0)) (hf : 8 ≤ R.frames) (hlo : 256 ≤ R.locals) : ∀ q ∈ tb_Mo_beyond, pm_IO p l e R s m args below meth c D pj_cl z b aC k0 s0 n0 pj_mi (pm_Eo below D pj_cl z b aC pj_xn args s k0 s0) q := by
  obtain ⟨hx, hb, -, hr, hlocks, hname, hown, hts⟩ := hcx
  have hG : ∀ w ∈ pj_G, w.before args s = true := fun w h => hts w (List.mem_cons_of_mem _ h)
  have hK := hF.1
  have hAO := hF.2.1
  have hSt := hF.2.2.2.2.1
  unfold tb_Mo_beyond
  refine List.forall_mem_cons.mpr ⟨pm_IO.go (ps_iload_n (kk := 0) hx hb rfl (by decide +kernel)), ?_⟩
  refine List.forall_mem_cons.mpr ⟨pm_IO.go (ps_iload_n (kk := 1) hx hb rfl (by decide +kernel)), ?_⟩
  refine List.forall_mem_cons.mpr ⟨pm_IO.go (ps_icmp_lt hx hb (off := 8) (by decide +kernel) (by decide +kernel)), ?_⟩
  refine List.forall_mem_cons.mpr ⟨pm_IO.go (ps_iload_n (kk := 0) hx hb rfl (by decide +kernel)), ?_⟩
  refine List.forall_mem_cons.mpr ⟨pm_IO.go (ps_iload_n (kk := 2) hx hb rfl (by decide +kernel)), ?_⟩
  refine List.forall_mem_cons.mpr ⟨pm_IO.go (ps_icmp_le hx hb (off := 7) (by decide +kernel) (by decide +kernel)), ?_⟩
  refine List.forall_mem_cons.mpr ⟨pm_IO.go (ps_iconst hx hb (n := (1)) (v := (1)) (by decide +kernel) (by decide +kernel)), ?_⟩
  refine List.forall_mem_cons.mpr ⟨pm_IO.go (ps_goto hx hb (off := 4) (by decide +kernel) (by decide +kernel)), ?_⟩
  refine List.forall_mem_cons.mpr ⟨pm_IO.go (ps_iconst hx hb (n := (0)) (v := (0)) (by decide +kernel) (by decide +kernel)), ?_⟩
  refine List.forall_mem_cons.mpr ⟨pm_IO.fin fin_zret (ps_zret hx hb hr hlocks (by decide +kernel)), ?_⟩
  exact fun _ h => absurd h List.not_mem_nil
theorem ok_Mo_beyond (hl9 : l.stackTraces = false) : pm_Ok l (pj_KF D aC z sa) D pj_cl z b aC pj_xn pj_mi (pj_P xs L) 101 :=
  pm_okW (ret := (Option.some Jvm.ClassFile.FieldType.boolean)) rfl rfl mi_Mo_beyond rfl mo_Mo_beyond (fun p e R s m args below meth c k0 s0 n0 hcx hno hF hz hf hlo => pm_B.tbl rfl (io_Mo_beyond hl9 hcx hno hF hz hf hlo) (fun pc x ls h H locs LS cells slots q ce rest hl hq hS hk hs hn hce hcv hcl => ⟨fun pc1 i hM => (nomatch (show (Sum.inr true : (Nat × Nat) ⊕ Bool) = .inl (pc1, i) from hM)), fun _ => pm_pass hno hcx.2.2.2.2.1 hq hS hk hs hce hcv hcl⟩))
theorem mo_Mo_throwing_ : ∀ q ∈ tb_Mo_throwing, pm_MO q.2 := by
  unfold tb_Mo_throwing
  refine List.forall_mem_cons.mpr ⟨pm_MO.go (mo_aload _ _), ?_⟩
  refine List.forall_mem_cons.mpr ⟨pm_MO.go (mo_iload _ _), ?_⟩
  refine List.forall_mem_cons.mpr ⟨pm_MO.go (mo_if _ _), ?_⟩
  refine List.forall_mem_cons.mpr ⟨pm_MO.go (mo_c _ _), ?_⟩
  refine List.forall_mem_cons.mpr ⟨pm_MO.go (mo_goto _), ?_⟩
  refine List.forall_mem_cons.mpr ⟨pm_MO.go (mo_iload _ _), ?_⟩
  refine List.forall_mem_cons.mpr ⟨pm_MO.go (mo_if _ _), ?_⟩
  refine List.forall_mem_cons.mpr ⟨pm_MO.go (mo_c _ _), ?_⟩
  refine List.forall_mem_cons.mpr ⟨pm_MO.go (mo_goto _), ?_⟩
  refine List.forall_mem_cons.mpr ⟨pm_MO.go (mo_iload _ _), ?_⟩
  refine List.forall_mem_cons.mpr ⟨pm_MO.go (mo_if _ _), ?_⟩
  refine List.forall_mem_cons.mpr ⟨pm_MO.go (mo_c _ _), ?_⟩
  refine List.forall_mem_cons.mpr ⟨pm_MO.go (mo_goto _), ?_⟩
  refine List.forall_mem_cons.mpr ⟨pm_MO.go (mo_c _ _), ?_⟩
  refine List.forall_mem_cons.mpr ⟨pm_MO.go (mo_put _ _ _), ?_⟩
  refine List.forall_mem_cons.mpr ⟨pm_MO.go (mo_aload _ _), ?_⟩
  refine List.forall_mem_cons.mpr ⟨pm_MO.go (mo_get _ _), ?_⟩
  refine List.forall_mem_cons.mpr ⟨pm_MO.go (mo_if _ _), ?_⟩
  refine List.forall_mem_cons.mpr ⟨pm_MO.go (mo_c _ _), ?_⟩
  refine List.forall_mem_cons.mpr ⟨pm_MO.go (mo_goto _), ?_⟩
  refine List.forall_mem_cons.mpr ⟨pm_MO.go (mo_c _ _), ?_⟩
  refine List.forall_mem_cons.mpr ⟨pm_MO.fin fin_zret, ?_⟩
  exact fun _ h => absurd h List.not_mem_nil
theorem mo_Mo_throwing : pm_MO M_Mo_throwing.1 := pm_MO.look mo_Mo_throwing_
set_option maxHeartbeats 4000000 in
theorem io_Mo_throwing (hl9 : l.stackTraces = false) (hcx : pm_cx p s m args meth c y_Mo_throwing prog_9_method_3_code 4 (Option.some Jvm.ClassFile.FieldType.boolean) w_Mo_throwing) (hno : ∀ x ∈ c.exceptionTable.toList, False) (hF : pj_KF D aC z sa s) (hz : z ≤ s.heap.size ∧ n0 ≤ k0 ∧ (n0 = k0 → s.heap.size = z + n0)) (hf : 8 ≤ R.frames) (hlo : 256 ≤ R.locals) : ∀ q ∈ tb_Mo_throwing, pm_IO p l e R s m args below meth c D pj_cl z b aC k0 s0 n0 pj_mi (pm_Eo below D pj_cl z b aC pj_xn args s k0 s0) q := by
  obtain ⟨hx, hb, -, hr, hlocks, hname, hown, hts⟩ := hcx
  have hG : ∀ w ∈ pj_G, w.before args s = true := fun w h => hts w (List.mem_cons_of_mem _ h)
  have hK := hF.1
  have hAO := hF.2.1
  have hSt := hF.2.2.2.2.1
  unfold tb_Mo_throwing
  refine List.forall_mem_cons.mpr ⟨pm_IO.go (ps_aload_n (kk := 0) hx hb rfl (by decide +kernel)), ?_⟩
  refine List.forall_mem_cons.mpr ⟨pm_IO.go (ps_iload_n (kk := 1) hx hb rfl (by decide +kernel)), ?_⟩
  refine List.forall_mem_cons.mpr ⟨pm_IO.go (ps_if_eq hx hb (off := 7) (by decide +kernel) (by decide +kernel)), ?_⟩
  refine List.forall_mem_cons.mpr ⟨pm_IO.go (ps_iconst hx hb (n := (1)) (v := (1)) (by decide +kernel) (by decide +kernel)), ?_⟩
  refine List.forall_mem_cons.mpr ⟨pm_IO.go (ps_goto hx hb (off := 20) (by decide +kernel) (by decide +kernel)), ?_⟩
  refine List.forall_mem_cons.mpr ⟨pm_IO.go (ps_iload_n (kk := 2) hx hb rfl (by decide +kernel)), ?_⟩
  refine List.forall_mem_cons.mpr ⟨pm_IO.go (ps_if_eq hx hb (off := 7) (by decide +kernel) (by decide +kernel)), ?_⟩
  refine List.forall_mem_cons.mpr ⟨pm_IO.go (ps_iconst hx hb (n := (2)) (v := (2)) (by decide +kernel) (by decide +kernel)), ?_⟩
  refine List.forall_mem_cons.mpr ⟨pm_IO.go (ps_goto hx hb (off := 12) (by decide +kernel) (by decide +kernel)), ?_⟩
  refine List.forall_mem_cons.mpr ⟨pm_IO.go (ps_iload_n (kk := 3) hx hb rfl (by decide +kernel)), ?_⟩
  refine List.forall_mem_cons.mpr ⟨pm_IO.go (ps_if_eq hx hb (off := 7) (by decide +kernel) (by decide +kernel)), ?_⟩
  refine List.forall_mem_cons.mpr ⟨pm_IO.go (ps_iconst hx hb (n := (3)) (v := (3)) (by decide +kernel) (by decide +kernel)), ?_⟩
  refine List.forall_mem_cons.mpr ⟨pm_IO.go (ps_goto hx hb (off := 4) (by decide +kernel) (by decide +kernel)), ?_⟩
  refine List.forall_mem_cons.mpr ⟨pm_IO.go (ps_iconst hx hb (n := (0)) (v := (0)) (by decide +kernel) (by decide +kernel)), ?_⟩
  refine List.forall_mem_cons.mpr ⟨pm_IO.go (ps_put hx hb hG in_Mo ty_Mo tk_Mo nm_Mo hown hK (ci := 7) rfl 0 (by decide +kernel) (hG _ wi_805) (fun _ h9 => h9) rfl pm_fit_int (by decide +kernel)), ?_⟩
  refine List.forall_mem_cons.mpr ⟨pm_IO.go (ps_aload_n (kk := 0) hx hb rfl (by decide +kernel)), ?_⟩
  refine List.forall_mem_cons.mpr ⟨pm_IO.go (ps_get hx hb hG in_Mo hown hK (ci := 7) rfl 0 (by decide +kernel) (hG _ wi_805) (fun _ h9 => h9) (by decide +kernel)), ?_⟩
  refine List.forall_mem_cons.mpr ⟨pm_IO.go (ps_if_le hx hb (off := 7) (by decide +kernel) (by decide +kernel)), ?_⟩
  refine List.forall_mem_cons.mpr ⟨pm_IO.go (ps_iconst hx hb (n := (1)) (v := (1)) (by decide +kernel) (by decide +kernel)), ?_⟩
  refine List.forall_mem_cons.mpr ⟨pm_IO.go (ps_goto hx hb (off := 4) (by decide +kernel) (by decide +kernel)), ?_⟩
  refine List.forall_mem_cons.mpr ⟨pm_IO.go (ps_iconst hx hb (n := (0)) (v := (0)) (by decide +kernel) (by decide +kernel)), ?_⟩
  refine List.forall_mem_cons.mpr ⟨pm_IO.fin fin_zret (ps_zret hx hb hr hlocks (by decide +kernel)), ?_⟩
  exact fun _ h => absurd h List.not_mem_nil
theorem ok_Mo_throwing (hl9 : l.stackTraces = false) : pm_Ok l (pj_KF D aC z sa) D pj_cl z b aC pj_xn pj_mi (pj_P xs L) 102 :=
  pm_okW (ret := (Option.some Jvm.ClassFile.FieldType.boolean)) rfl rfl mi_Mo_throwing rfl mo_Mo_throwing (fun p e R s m args below meth c k0 s0 n0 hcx hno hF hz hf hlo => pm_B.tbl rfl (io_Mo_throwing hl9 hcx hno hF hz hf hlo) (fun pc x ls h H locs LS cells slots q ce rest hl hq hS hk hs hn hce hcv hcl => ⟨fun pc1 i hM => (nomatch (show (Sum.inr true : (Nat × Nat) ⊕ Bool) = .inl (pc1, i) from hM)), fun _ => pm_pass hno hcx.2.2.2.2.1 hq hS hk hs hce hcv hcl⟩))
theorem mo_Mo_clear_ : ∀ q ∈ tb_Mo_clear, pm_MO q.2 := by
  unfold tb_Mo_clear
  refine List.forall_mem_cons.mpr ⟨pm_MO.go (mo_aload _ _), ?_⟩
  refine List.forall_mem_cons.mpr ⟨pm_MO.go (mo_c _ _), ?_⟩
  refine List.forall_mem_cons.mpr ⟨pm_MO.go (mo_put _ _ _), ?_⟩
  refine List.forall_mem_cons.mpr ⟨pm_MO.go (mo_aload _ _), ?_⟩
  refine List.forall_mem_cons.mpr ⟨pm_MO.go (mo_c _ _), ?_⟩
  refine List.forall_mem_cons.mpr ⟨pm_MO.go (mo_put _ _ _), ?_⟩
  refine List.forall_mem_cons.mpr ⟨pm_MO.fin fin_vret, ?_⟩
  exact fun _ h => absurd h List.not_mem_nil
theorem mo_Mo_clear : pm_MO M_Mo_clear.1 := pm_MO.look mo_Mo_clear_
set_option maxHeartbeats 4000000 in
theorem io_Mo_clear (hl9 : l.stackTraces = false) (hcx : pm_cx p s m args meth c y_Mo_clear prog_9_method_6_code 1 (Option.none : Option Jvm.ClassFile.FieldType) w_Mo_clear) (hno : ∀ x ∈ c.exceptionTable.toList, False) (hF : pj_KF D aC z sa s) (hz : z ≤ s.heap.size ∧ n0 ≤ k0 ∧ (n0 = k0 → s.heap.size = z + n0)) (hf : 8 ≤ R.frames) (hlo : 256 ≤ R.locals) : ∀ q ∈ tb_Mo_clear, pm_IO p l e R s m args below meth c D pj_cl z b aC k0 s0 n0 pj_mi (pm_Eo below D pj_cl z b aC pj_xn args s k0 s0) q := by
  obtain ⟨hx, hb, -, hr, hlocks, hname, hown, hts⟩ := hcx
  have hG : ∀ w ∈ pj_G, w.before args s = true := fun w h => hts w (List.mem_cons_of_mem _ h)
  have hK := hF.1
  have hAO := hF.2.1
  have hSt := hF.2.2.2.2.1
  unfold tb_Mo_clear
  refine List.forall_mem_cons.mpr ⟨pm_IO.go (ps_aload_n (kk := 0) hx hb rfl (by decide +kernel)), ?_⟩
  refine List.forall_mem_cons.mpr ⟨pm_IO.go (ps_iconst hx hb (n := (0)) (v := (0)) (by decide +kernel) (by decide +kernel)), ?_⟩
  refine List.forall_mem_cons.mpr ⟨pm_IO.go (ps_put hx hb hG in_Mo ty_Mo tk_Mo nm_Mo hown hK (ci := 7) rfl 0 (by decide +kernel) (hG _ wi_805) (fun _ h9 => h9) rfl pm_fit_int (by decide +kernel)), ?_⟩
  refine List.forall_mem_cons.mpr ⟨pm_IO.go (ps_aload_n (kk := 0) hx hb rfl (by decide +kernel)), ?_⟩
  refine List.forall_mem_cons.mpr ⟨pm_IO.go (ps_iconst hx hb (n := (0)) (v := (0)) (by decide +kernel) (by decide +kernel)), ?_⟩
  refine List.forall_mem_cons.mpr ⟨pm_IO.go (ps_put hx hb hG in_Mo ty_Mo tk_Mo nm_Mo hown hK (ci := 7) rfl 2 (by decide +kernel) (hG _ wi_807) (fun _ h9 => h9) rfl pm_fit_int (by decide +kernel)), ?_⟩
  refine List.forall_mem_cons.mpr ⟨pm_IO.fin fin_vret (ps_vret hx hb hr hlocks (by decide +kernel)), ?_⟩
  exact fun _ h => absurd h List.not_mem_nil
theorem ok_Mo_clear (hl9 : l.stackTraces = false) : pm_Ok l (pj_KF D aC z sa) D pj_cl z b aC pj_xn pj_mi (pj_P xs L) 103 :=
  pm_okW (ret := (Option.none : Option Jvm.ClassFile.FieldType)) rfl rfl mi_Mo_clear rfl mo_Mo_clear (fun p e R s m args below meth c k0 s0 n0 hcx hno hF hz hf hlo => pm_B.tbl rfl (io_Mo_clear hl9 hcx hno hF hz hf hlo) (fun pc x ls h H locs LS cells slots q ce rest hl hq hS hk hs hn hce hcv hcl => ⟨fun pc1 i hM => (nomatch (show (Sum.inr true : (Nat × Nat) ⊕ Bool) = .inl (pc1, i) from hM)), fun _ => pm_pass hno hcx.2.2.2.2.1 hq hS hk hs hce hcv hcl⟩))
end IO
