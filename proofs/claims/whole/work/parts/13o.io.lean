section IO
variable {p : Program} {l : Launch} {e : Env} {R : Room} {s : State} {m : MethodId} {args : Array Value} {below : List Frame} {meth : Method} {c : Code} {D : va_G} {z b : Nat} {aC : Nat → ClassId} {k0 s0 n0 : Nat} {sa : Nat → Nat} {xs : Nat → Int32} {L : Nat}
theorem mo_Mo_behind_ : ∀ q ∈ tb_Mo_behind, pm_MO q.2 := by
  unfold tb_Mo_behind
  refine List.forall_mem_cons.mpr ⟨pm_MO.go (mo_c _ _), ?_⟩
  refine List.forall_mem_cons.mpr ⟨pm_MO.go (mo_istore _ _), ?_⟩
  refine List.forall_mem_cons.mpr ⟨pm_MO.go (mo_iload _ _), ?_⟩
  refine List.forall_mem_cons.mpr ⟨pm_MO.go (mo_istore _ _), ?_⟩
  refine List.forall_mem_cons.mpr ⟨pm_MO.go (mo_aload _ _), ?_⟩
  refine List.forall_mem_cons.mpr ⟨pm_MO.go (mo_iload _ _), ?_⟩
  refine List.forall_mem_cons.mpr ⟨pm_MO.go (mo_iald), ?_⟩
  refine List.forall_mem_cons.mpr ⟨pm_MO.go (mo_c _ _), ?_⟩
  refine List.forall_mem_cons.mpr ⟨pm_MO.go (mo_icmp _ _), ?_⟩
  refine List.forall_mem_cons.mpr ⟨pm_MO.go (mo_iload _ _), ?_⟩
  refine List.forall_mem_cons.mpr ⟨pm_MO.go (mo_c _ _), ?_⟩
  refine List.forall_mem_cons.mpr ⟨pm_MO.go (mo_icmp _ _), ?_⟩
  refine List.forall_mem_cons.mpr ⟨pm_MO.go (mo_aload _ _), ?_⟩
  refine List.forall_mem_cons.mpr ⟨pm_MO.go (mo_iload _ _), ?_⟩
  refine List.forall_mem_cons.mpr ⟨pm_MO.go (mo_iald), ?_⟩
  refine List.forall_mem_cons.mpr ⟨pm_MO.go (mo_c _ _), ?_⟩
  refine List.forall_mem_cons.mpr ⟨pm_MO.go (mo_icmp _ _), ?_⟩
  refine List.forall_mem_cons.mpr ⟨pm_MO.go (mo_iload _ _), ?_⟩
  refine List.forall_mem_cons.mpr ⟨pm_MO.go (mo_c _ _), ?_⟩
  refine List.forall_mem_cons.mpr ⟨pm_MO.go (mo_i2 _), ?_⟩
  refine List.forall_mem_cons.mpr ⟨pm_MO.go (mo_goto _), ?_⟩
  refine List.forall_mem_cons.mpr ⟨pm_MO.go (mo_aload _ _), ?_⟩
  refine List.forall_mem_cons.mpr ⟨pm_MO.go (mo_iload _ _), ?_⟩
  refine List.forall_mem_cons.mpr ⟨pm_MO.go (mo_iald), ?_⟩
  refine List.forall_mem_cons.mpr ⟨pm_MO.go (mo_c _ _), ?_⟩
  refine List.forall_mem_cons.mpr ⟨pm_MO.go (mo_icmp _ _), ?_⟩
  refine List.forall_mem_cons.mpr ⟨pm_MO.go (mo_iload _ _), ?_⟩
  refine List.forall_mem_cons.mpr ⟨pm_MO.go (mo_c _ _), ?_⟩
  refine List.forall_mem_cons.mpr ⟨pm_MO.go (mo_i2 _), ?_⟩
  refine List.forall_mem_cons.mpr ⟨pm_MO.go (mo_goto _), ?_⟩
  refine List.forall_mem_cons.mpr ⟨pm_MO.go (mo_iload _ _), ?_⟩
  refine List.forall_mem_cons.mpr ⟨pm_MO.go (mo_istore _ _), ?_⟩
  refine List.forall_mem_cons.mpr ⟨pm_MO.go (mo_iinc _ _ _), ?_⟩
  refine List.forall_mem_cons.mpr ⟨pm_MO.go (mo_goto _), ?_⟩
  refine List.forall_mem_cons.mpr ⟨pm_MO.go (mo_iload _ _), ?_⟩
  refine List.forall_mem_cons.mpr ⟨pm_MO.go (mo_c _ _), ?_⟩
  refine List.forall_mem_cons.mpr ⟨pm_MO.go (mo_i2 _), ?_⟩
  refine List.forall_mem_cons.mpr ⟨pm_MO.fin fin_iret, ?_⟩
  exact fun _ h => absurd h List.not_mem_nil
theorem mo_Mo_behind : pm_MO M_Mo_behind.1 := pm_MO.look mo_Mo_behind_
set_option maxHeartbeats 4000000 in
theorem io_Mo_behind (hl9 : l.stackTraces = false) (hcx : pm_cx p s m args meth c y_Mo_behind prog_9_method_17_code 4 (Option.some Jvm.ClassFile.FieldType.int) w_Mo_behind) (hno : ∀ x ∈ c.exceptionTable.toList, False) (hF : pj_KF D aC z sa s) (hz : z ≤ s.heap.size ∧ n0 ≤ k0 ∧ (n0 = k0 → s.heap.size = z + n0)) (hf : 8 ≤ R.frames) (hlo : 256 ≤ R.locals) : ∀ q ∈ tb_Mo_behind, pm_IO p l e R s m args below meth c D pj_cl z b aC k0 s0 n0 pj_mi (pm_Eo below D pj_cl z b aC pj_xn args s k0 s0) q := by
  obtain ⟨hx, hb, -, hr, hlocks, hname, hown, hts⟩ := hcx
  have hG : ∀ w ∈ pj_G, w.before args s = true := fun w h => hts w (List.mem_cons_of_mem _ h)
  have hK := hF.1
  have hAO := hF.2.1
  have hSt := hF.2.2.2.2.1
  unfold tb_Mo_behind
  refine List.forall_mem_cons.mpr ⟨pm_IO.go (ps_iconst hx hb (n := (0)) (v := (0)) (by decide +kernel) (by decide +kernel)), ?_⟩
  refine List.forall_mem_cons.mpr ⟨pm_IO.go (ps_istore_n (kk := 2) hx hb rfl (by decide +kernel)), ?_⟩
  refine List.forall_mem_cons.mpr ⟨pm_IO.go (ps_iload_n (kk := 1) hx hb rfl (by decide +kernel)), ?_⟩
  refine List.forall_mem_cons.mpr ⟨pm_IO.go (ps_istore_n (kk := 3) hx hb rfl (by decide +kernel)), ?_⟩
  refine List.forall_mem_cons.mpr ⟨pm_IO.go (ps_aload_n (kk := 0) hx hb rfl (by decide +kernel)), ?_⟩
  refine List.forall_mem_cons.mpr ⟨pm_IO.go (ps_iload_n (kk := 3) hx hb rfl (by decide +kernel)), ?_⟩
  refine List.forall_mem_cons.mpr ⟨pm_IO.go (ps_iald hx hb hK 0 rfl (by decide +kernel)), ?_⟩
  refine List.forall_mem_cons.mpr ⟨pm_IO.go (ps_bipush hx hb (n := (125)) (v := (125)) (by decide +kernel) (by decide +kernel)), ?_⟩
  refine List.forall_mem_cons.mpr ⟨pm_IO.go (ps_icmp_ne hx hb (off := 8) (by decide +kernel) (by decide +kernel)), ?_⟩
  refine List.forall_mem_cons.mpr ⟨pm_IO.go (ps_iload_n (kk := 2) hx hb rfl (by decide +kernel)), ?_⟩
  refine List.forall_mem_cons.mpr ⟨pm_IO.go (ps_iconst hx hb (n := (1)) (v := (1)) (by decide +kernel) (by decide +kernel)), ?_⟩
  refine List.forall_mem_cons.mpr ⟨pm_IO.go (ps_icmp_le hx hb (off := 39) (by decide +kernel) (by decide +kernel)), ?_⟩
  refine List.forall_mem_cons.mpr ⟨pm_IO.go (ps_aload_n (kk := 0) hx hb rfl (by decide +kernel)), ?_⟩
  refine List.forall_mem_cons.mpr ⟨pm_IO.go (ps_iload_n (kk := 3) hx hb rfl (by decide +kernel)), ?_⟩
  refine List.forall_mem_cons.mpr ⟨pm_IO.go (ps_iald hx hb hK 0 rfl (by decide +kernel)), ?_⟩
  refine List.forall_mem_cons.mpr ⟨pm_IO.go (ps_bipush hx hb (n := (123)) (v := (123)) (by decide +kernel) (by decide +kernel)), ?_⟩
  refine List.forall_mem_cons.mpr ⟨pm_IO.go (ps_icmp_ne hx hb (off := 9) (by decide +kernel) (by decide +kernel)), ?_⟩
  refine List.forall_mem_cons.mpr ⟨pm_IO.go (ps_iload_n (kk := 2) hx hb rfl (by decide +kernel)), ?_⟩
  refine List.forall_mem_cons.mpr ⟨pm_IO.go (ps_iconst hx hb (n := (1)) (v := (1)) (by decide +kernel) (by decide +kernel)), ?_⟩
  refine List.forall_mem_cons.mpr ⟨pm_IO.go (ps_iadd hx hb (by decide +kernel)), ?_⟩
  refine List.forall_mem_cons.mpr ⟨pm_IO.go (ps_goto hx hb (off := 18) (by decide +kernel) (by decide +kernel)), ?_⟩
  refine List.forall_mem_cons.mpr ⟨pm_IO.go (ps_aload_n (kk := 0) hx hb rfl (by decide +kernel)), ?_⟩
  refine List.forall_mem_cons.mpr ⟨pm_IO.go (ps_iload_n (kk := 3) hx hb rfl (by decide +kernel)), ?_⟩
  refine List.forall_mem_cons.mpr ⟨pm_IO.go (ps_iald hx hb hK 0 rfl (by decide +kernel)), ?_⟩
  refine List.forall_mem_cons.mpr ⟨pm_IO.go (ps_bipush hx hb (n := (125)) (v := (125)) (by decide +kernel) (by decide +kernel)), ?_⟩
  refine List.forall_mem_cons.mpr ⟨pm_IO.go (ps_icmp_ne hx hb (off := 9) (by decide +kernel) (by decide +kernel)), ?_⟩
  refine List.forall_mem_cons.mpr ⟨pm_IO.go (ps_iload_n (kk := 2) hx hb rfl (by decide +kernel)), ?_⟩
  refine List.forall_mem_cons.mpr ⟨pm_IO.go (ps_iconst hx hb (n := (1)) (v := (1)) (by decide +kernel) (by decide +kernel)), ?_⟩
  refine List.forall_mem_cons.mpr ⟨pm_IO.go (ps_isub hx hb (by decide +kernel)), ?_⟩
  refine List.forall_mem_cons.mpr ⟨pm_IO.go (ps_goto hx hb (off := 4) (by decide +kernel) (by decide +kernel)), ?_⟩
  refine List.forall_mem_cons.mpr ⟨pm_IO.go (ps_iload_n (kk := 2) hx hb rfl (by decide +kernel)), ?_⟩
  refine List.forall_mem_cons.mpr ⟨pm_IO.go (ps_istore_n (kk := 2) hx hb rfl (by decide +kernel)), ?_⟩
  refine List.forall_mem_cons.mpr ⟨pm_IO.go (ps_iinc hx hb (n := (1)) (v := (1)) (by decide +kernel) (by decide +kernel)), ?_⟩
  refine List.forall_mem_cons.mpr ⟨pm_IO.go (ps_goto hx hb (off := -46) (by decide +kernel) (by decide +kernel)), ?_⟩
  refine List.forall_mem_cons.mpr ⟨pm_IO.go (ps_iload_n (kk := 3) hx hb rfl (by decide +kernel)), ?_⟩
  refine List.forall_mem_cons.mpr ⟨pm_IO.go (ps_iconst hx hb (n := (1)) (v := (1)) (by decide +kernel) (by decide +kernel)), ?_⟩
  refine List.forall_mem_cons.mpr ⟨pm_IO.go (ps_iadd hx hb (by decide +kernel)), ?_⟩
  refine List.forall_mem_cons.mpr ⟨pm_IO.fin fin_iret (ps_iret hx hb hr hlocks (by decide +kernel)), ?_⟩
  exact fun _ h => absurd h List.not_mem_nil
theorem ok_Mo_behind (hl9 : l.stackTraces = false) : pm_Ok l (pj_KF D aC z sa) D pj_cl z b aC pj_xn pj_mi (pj_P xs L) 134 :=
  pm_okW (ret := (Option.some Jvm.ClassFile.FieldType.int)) rfl rfl mi_Mo_behind rfl mo_Mo_behind (fun p e R s m args below meth c k0 s0 n0 hcx hno hF hz hf hlo => pm_B.tbl rfl (io_Mo_behind hl9 hcx hno hF hz hf hlo) (fun pc x ls h H locs LS cells slots q ce rest hl hq hS hk hs hn hce hcv hcl => ⟨fun pc1 i hM => (nomatch (show (Sum.inr true : (Nat × Nat) ⊕ Bool) = .inl (pc1, i) from hM)), fun _ => pm_pass hno hcx.2.2.2.2.1 hq hS hk hs hce hcv hcl⟩))
theorem mo_Mo_behindAll_ : ∀ q ∈ tb_Mo_behindAll, pm_MO q.2 := by
  unfold tb_Mo_behindAll
  refine List.forall_mem_cons.mpr ⟨pm_MO.go (mo_aload _ _), ?_⟩
  refine List.forall_mem_cons.mpr ⟨pm_MO.go (mo_get _ _), ?_⟩
  refine List.forall_mem_cons.mpr ⟨pm_MO.go (mo_aload _ _), ?_⟩
  refine List.forall_mem_cons.mpr ⟨pm_MO.go (mo_get _ _), ?_⟩
  refine List.forall_mem_cons.mpr ⟨pm_MO.go (mo_iload _ _), ?_⟩
  refine List.forall_mem_cons.mpr ⟨pm_MO.go (mo_c _ _), ?_⟩
  refine List.forall_mem_cons.mpr ⟨pm_MO.go (mo_c _ _), ?_⟩
  refine List.forall_mem_cons.mpr ⟨mo_call _ _, ?_⟩
  refine List.forall_mem_cons.mpr ⟨mo_call _ _, ?_⟩
  refine List.forall_mem_cons.mpr ⟨pm_MO.go (mo_istore _ _), ?_⟩
  refine List.forall_mem_cons.mpr ⟨pm_MO.go (mo_aload _ _), ?_⟩
  refine List.forall_mem_cons.mpr ⟨pm_MO.go (mo_get _ _), ?_⟩
  refine List.forall_mem_cons.mpr ⟨pm_MO.go (mo_iload _ _), ?_⟩
  refine List.forall_mem_cons.mpr ⟨pm_MO.go (mo_iald), ?_⟩
  refine List.forall_mem_cons.mpr ⟨pm_MO.go (mo_c _ _), ?_⟩
  refine List.forall_mem_cons.mpr ⟨pm_MO.go (mo_icmp _ _), ?_⟩
  refine List.forall_mem_cons.mpr ⟨pm_MO.go (mo_iload _ _), ?_⟩
  refine List.forall_mem_cons.mpr ⟨pm_MO.go (mo_aload _ _), ?_⟩
  refine List.forall_mem_cons.mpr ⟨pm_MO.go (mo_get _ _), ?_⟩
  refine List.forall_mem_cons.mpr ⟨pm_MO.go (mo_icmp _ _), ?_⟩
  refine List.forall_mem_cons.mpr ⟨pm_MO.go (mo_aload _ _), ?_⟩
  refine List.forall_mem_cons.mpr ⟨pm_MO.go (mo_get _ _), ?_⟩
  refine List.forall_mem_cons.mpr ⟨pm_MO.go (mo_iload _ _), ?_⟩
  refine List.forall_mem_cons.mpr ⟨pm_MO.go (mo_iald), ?_⟩
  refine List.forall_mem_cons.mpr ⟨pm_MO.go (mo_c _ _), ?_⟩
  refine List.forall_mem_cons.mpr ⟨pm_MO.go (mo_icmp _ _), ?_⟩
  refine List.forall_mem_cons.mpr ⟨pm_MO.go (mo_aload _ _), ?_⟩
  refine List.forall_mem_cons.mpr ⟨pm_MO.go (mo_get _ _), ?_⟩
  refine List.forall_mem_cons.mpr ⟨pm_MO.go (mo_iload _ _), ?_⟩
  refine List.forall_mem_cons.mpr ⟨mo_call _ _, ?_⟩
  refine List.forall_mem_cons.mpr ⟨pm_MO.go (mo_goto _), ?_⟩
  refine List.forall_mem_cons.mpr ⟨pm_MO.go (mo_iload _ _), ?_⟩
  refine List.forall_mem_cons.mpr ⟨pm_MO.fin fin_iret, ?_⟩
  exact fun _ h => absurd h List.not_mem_nil
theorem mo_Mo_behindAll : pm_MO M_Mo_behindAll.1 := pm_MO.look mo_Mo_behindAll_
set_option maxHeartbeats 4000000 in
theorem io_Mo_behindAll (hl9 : l.stackTraces = false) (hcx : pm_cx p s m args meth c y_Mo_behindAll prog_9_method_35_code 3 (Option.some Jvm.ClassFile.FieldType.int) w_Mo_behindAll) (hno : ∀ x ∈ c.exceptionTable.toList, False) (hF : pj_KF D aC z sa s) (hz : z ≤ s.heap.size ∧ n0 ≤ k0 ∧ (n0 = k0 → s.heap.size = z + n0)) (hf : 8 ≤ R.frames) (hlo : 256 ≤ R.locals) : ∀ q ∈ tb_Mo_behindAll, pm_IO p l e R s m args below meth c D pj_cl z b aC k0 s0 n0 pj_mi (pm_Eo below D pj_cl z b aC pj_xn args s k0 s0) q := by
  obtain ⟨hx, hb, -, hr, hlocks, hname, hown, hts⟩ := hcx
  have hG : ∀ w ∈ pj_G, w.before args s = true := fun w h => hts w (List.mem_cons_of_mem _ h)
  have hK := hF.1
  have hAO := hF.2.1
  have hSt := hF.2.2.2.2.1
  unfold tb_Mo_behindAll
  refine List.forall_mem_cons.mpr ⟨pm_IO.go (ps_aload_n (kk := 0) hx hb rfl (by decide +kernel)), ?_⟩
  refine List.forall_mem_cons.mpr ⟨pm_IO.go (ps_get hx hb hG in_Mo hown hK (ci := 7) rfl 3 (by decide +kernel) (hG _ wi_808) (fun _ h9 => h9) (by decide +kernel)), ?_⟩
  refine List.forall_mem_cons.mpr ⟨pm_IO.go (ps_aload_n (kk := 0) hx hb rfl (by decide +kernel)), ?_⟩
  refine List.forall_mem_cons.mpr ⟨pm_IO.go (ps_get hx hb hG in_Mo hown hK (ci := 7) rfl 3 (by decide +kernel) (hG _ wi_808) (fun _ h9 => h9) (by decide +kernel)), ?_⟩
  refine List.forall_mem_cons.mpr ⟨pm_IO.go (ps_iload_n (kk := 1) hx hb rfl (by decide +kernel)), ?_⟩
  refine List.forall_mem_cons.mpr ⟨pm_IO.go (ps_bipush hx hb (n := (123)) (v := (123)) (by decide +kernel) (by decide +kernel)), ?_⟩
  refine List.forall_mem_cons.mpr ⟨pm_IO.go (ps_bipush hx hb (n := (123)) (v := (123)) (by decide +kernel) (by decide +kernel)), ?_⟩
  refine List.forall_mem_cons.mpr ⟨pl_S hx hb hown (hG _ wi_999) (hG _ wi_1000) (hG _ wi_8) (sg_Mo_upTo hG) (nd_Mo_upTo hG) (by decide +kernel) (n := 4) (by decide +kernel) (cw_Mo_upTo hG) mi_Mo_upTo (by decide +kernel), ?_⟩
  refine List.forall_mem_cons.mpr ⟨pl_S hx hb hown (hG _ wi_1073) (hG _ wi_1074) (hG _ wi_8) (sg_Mo_behind hG) (nd_Mo_behind hG) (by decide +kernel) (n := 2) (by decide +kernel) (cw_Mo_behind hG) mi_Mo_behind (by decide +kernel), ?_⟩
  refine List.forall_mem_cons.mpr ⟨pm_IO.go (ps_istore_n (kk := 2) hx hb rfl (by decide +kernel)), ?_⟩
  refine List.forall_mem_cons.mpr ⟨pm_IO.go (ps_aload_n (kk := 0) hx hb rfl (by decide +kernel)), ?_⟩
  refine List.forall_mem_cons.mpr ⟨pm_IO.go (ps_get hx hb hG in_Mo hown hK (ci := 7) rfl 3 (by decide +kernel) (hG _ wi_808) (fun _ h9 => h9) (by decide +kernel)), ?_⟩
  refine List.forall_mem_cons.mpr ⟨pm_IO.go (ps_iload_n (kk := 1) hx hb rfl (by decide +kernel)), ?_⟩
  refine List.forall_mem_cons.mpr ⟨pm_IO.go (ps_iald hx hb hK 0 rfl (by decide +kernel)), ?_⟩
  refine List.forall_mem_cons.mpr ⟨pm_IO.go (ps_bipush hx hb (n := (63)) (v := (63)) (by decide +kernel) (by decide +kernel)), ?_⟩
  refine List.forall_mem_cons.mpr ⟨pm_IO.go (ps_icmp_ne hx hb (off := 33) (by decide +kernel) (by decide +kernel)), ?_⟩
  refine List.forall_mem_cons.mpr ⟨pm_IO.go (ps_iload_n (kk := 2) hx hb rfl (by decide +kernel)), ?_⟩
  refine List.forall_mem_cons.mpr ⟨pm_IO.go (ps_aload_n (kk := 0) hx hb rfl (by decide +kernel)), ?_⟩
  refine List.forall_mem_cons.mpr ⟨pm_IO.go (ps_get hx hb hG in_Mo hown hK (ci := 7) rfl 4 (by decide +kernel) (hG _ wi_809) (fun _ h9 => h9) (by decide +kernel)), ?_⟩
  refine List.forall_mem_cons.mpr ⟨pm_IO.go (ps_icmp_ge hx hb (off := 25) (by decide +kernel) (by decide +kernel)), ?_⟩
  refine List.forall_mem_cons.mpr ⟨pm_IO.go (ps_aload_n (kk := 0) hx hb rfl (by decide +kernel)), ?_⟩
  refine List.forall_mem_cons.mpr ⟨pm_IO.go (ps_get hx hb hG in_Mo hown hK (ci := 7) rfl 3 (by decide +kernel) (hG _ wi_808) (fun _ h9 => h9) (by decide +kernel)), ?_⟩
  refine List.forall_mem_cons.mpr ⟨pm_IO.go (ps_iload_n (kk := 2) hx hb rfl (by decide +kernel)), ?_⟩
  refine List.forall_mem_cons.mpr ⟨pm_IO.go (ps_iald hx hb hK 0 rfl (by decide +kernel)), ?_⟩
  refine List.forall_mem_cons.mpr ⟨pm_IO.go (ps_bipush hx hb (n := (123)) (v := (123)) (by decide +kernel) (by decide +kernel)), ?_⟩
  refine List.forall_mem_cons.mpr ⟨pm_IO.go (ps_icmp_ne hx hb (off := 14) (by decide +kernel) (by decide +kernel)), ?_⟩
  refine List.forall_mem_cons.mpr ⟨pm_IO.go (ps_aload_n (kk := 0) hx hb rfl (by decide +kernel)), ?_⟩
  refine List.forall_mem_cons.mpr ⟨pm_IO.go (ps_get hx hb hG in_Mo hown hK (ci := 7) rfl 3 (by decide +kernel) (hG _ wi_808) (fun _ h9 => h9) (by decide +kernel)), ?_⟩
  refine List.forall_mem_cons.mpr ⟨pm_IO.go (ps_iload_n (kk := 2) hx hb rfl (by decide +kernel)), ?_⟩
  refine List.forall_mem_cons.mpr ⟨pl_S hx hb hown (hG _ wi_1073) (hG _ wi_1074) (hG _ wi_8) (sg_Mo_behind hG) (nd_Mo_behind hG) (by decide +kernel) (n := 2) (by decide +kernel) (cw_Mo_behind hG) mi_Mo_behind (by decide +kernel), ?_⟩
  refine List.forall_mem_cons.mpr ⟨pm_IO.go (ps_goto hx hb (off := 4) (by decide +kernel) (by decide +kernel)), ?_⟩
  refine List.forall_mem_cons.mpr ⟨pm_IO.go (ps_iload_n (kk := 2) hx hb rfl (by decide +kernel)), ?_⟩
  refine List.forall_mem_cons.mpr ⟨pm_IO.fin fin_iret (ps_iret hx hb hr hlocks (by decide +kernel)), ?_⟩
  exact fun _ h => absurd h List.not_mem_nil
theorem ok_Mo_behindAll (hl9 : l.stackTraces = false) : pm_Ok l (pj_KF D aC z sa) D pj_cl z b aC pj_xn pj_mi (pj_P xs L) 135 :=
  pm_okW (ret := (Option.some Jvm.ClassFile.FieldType.int)) rfl rfl mi_Mo_behindAll rfl mo_Mo_behindAll (fun p e R s m args below meth c k0 s0 n0 hcx hno hF hz hf hlo => pm_B.tbl rfl (io_Mo_behindAll hl9 hcx hno hF hz hf hlo) (fun pc x ls h H locs LS cells slots q ce rest hl hq hS hk hs hn hce hcv hcl => ⟨fun pc1 i hM => (nomatch (show (Sum.inr true : (Nat × Nat) ⊕ Bool) = .inl (pc1, i) from hM)), fun _ => pm_pass hno hcx.2.2.2.2.1 hq hS hk hs hce hcv hcl⟩))
theorem mo_Mo_parts_ : ∀ q ∈ tb_Mo_parts, pm_MO q.2 := by
  unfold tb_Mo_parts
  refine List.forall_mem_cons.mpr ⟨pm_MO.go (mo_aload _ _), ?_⟩
  refine List.forall_mem_cons.mpr ⟨pm_MO.go (mo_get _ _), ?_⟩
  refine List.forall_mem_cons.mpr ⟨pm_MO.go (mo_iload _ _), ?_⟩
  refine List.forall_mem_cons.mpr ⟨pm_MO.go (mo_c _ _), ?_⟩
  refine List.forall_mem_cons.mpr ⟨pm_MO.go (mo_c _ _), ?_⟩
  refine List.forall_mem_cons.mpr ⟨mo_call _ _, ?_⟩
  refine List.forall_mem_cons.mpr ⟨pm_MO.go (mo_istore _ _), ?_⟩
  refine List.forall_mem_cons.mpr ⟨pm_MO.go (mo_aload _ _), ?_⟩
  refine List.forall_mem_cons.mpr ⟨pm_MO.go (mo_iload _ _), ?_⟩
  refine List.forall_mem_cons.mpr ⟨pm_MO.go (mo_iload _ _), ?_⟩
  refine List.forall_mem_cons.mpr ⟨pm_MO.go (mo_c _ _), ?_⟩
  refine List.forall_mem_cons.mpr ⟨pm_MO.go (mo_i2 _), ?_⟩
  refine List.forall_mem_cons.mpr ⟨pm_MO.go (mo_iload _ _), ?_⟩
  refine List.forall_mem_cons.mpr ⟨mo_callv _ _ _, ?_⟩
  refine List.forall_mem_cons.mpr ⟨pm_MO.go (mo_istore _ _), ?_⟩
  refine List.forall_mem_cons.mpr ⟨pm_MO.go (mo_aload _ _), ?_⟩
  refine List.forall_mem_cons.mpr ⟨pm_MO.go (mo_get _ _), ?_⟩
  refine List.forall_mem_cons.mpr ⟨pm_MO.go (mo_iload _ _), ?_⟩
  refine List.forall_mem_cons.mpr ⟨pm_MO.go (mo_iald), ?_⟩
  refine List.forall_mem_cons.mpr ⟨pm_MO.go (mo_c _ _), ?_⟩
  refine List.forall_mem_cons.mpr ⟨pm_MO.go (mo_icmp _ _), ?_⟩
  refine List.forall_mem_cons.mpr ⟨pm_MO.go (mo_iload _ _), ?_⟩
  refine List.forall_mem_cons.mpr ⟨pm_MO.go (mo_if _ _), ?_⟩
  refine List.forall_mem_cons.mpr ⟨pm_MO.go (mo_aload _ _), ?_⟩
  refine List.forall_mem_cons.mpr ⟨pm_MO.go (mo_iload _ _), ?_⟩
  refine List.forall_mem_cons.mpr ⟨mo_callv _ _ _, ?_⟩
  refine List.forall_mem_cons.mpr ⟨pm_MO.go (mo_goto _), ?_⟩
  refine List.forall_mem_cons.mpr ⟨pm_MO.go (mo_aload _ _), ?_⟩
  refine List.forall_mem_cons.mpr ⟨pm_MO.go (mo_iload _ _), ?_⟩
  refine List.forall_mem_cons.mpr ⟨pm_MO.go (mo_iload _ _), ?_⟩
  refine List.forall_mem_cons.mpr ⟨pm_MO.go (mo_c _ _), ?_⟩
  refine List.forall_mem_cons.mpr ⟨pm_MO.go (mo_iload _ _), ?_⟩
  refine List.forall_mem_cons.mpr ⟨pm_MO.go (mo_iload _ _), ?_⟩
  refine List.forall_mem_cons.mpr ⟨mo_callv _ _ _, ?_⟩
  refine List.forall_mem_cons.mpr ⟨pm_MO.fin fin_iret, ?_⟩
  refine List.forall_mem_cons.mpr ⟨pm_MO.go (mo_aload _ _), ?_⟩
  refine List.forall_mem_cons.mpr ⟨pm_MO.go (mo_iload _ _), ?_⟩
  refine List.forall_mem_cons.mpr ⟨mo_callv _ _ _, ?_⟩
  refine List.forall_mem_cons.mpr ⟨pm_MO.go (mo_iload _ _), ?_⟩
  refine List.forall_mem_cons.mpr ⟨pm_MO.go (mo_c _ _), ?_⟩
  refine List.forall_mem_cons.mpr ⟨pm_MO.go (mo_i2 _), ?_⟩
  refine List.forall_mem_cons.mpr ⟨pm_MO.go (mo_i2 _), ?_⟩
  refine List.forall_mem_cons.mpr ⟨pm_MO.go (mo_istore _ _), ?_⟩
  refine List.forall_mem_cons.mpr ⟨pm_MO.go (mo_iload _ _), ?_⟩
  refine List.forall_mem_cons.mpr ⟨pm_MO.go (mo_if _ _), ?_⟩
  refine List.forall_mem_cons.mpr ⟨pm_MO.go (mo_aload _ _), ?_⟩
  refine List.forall_mem_cons.mpr ⟨pm_MO.go (mo_c _ _), ?_⟩
  refine List.forall_mem_cons.mpr ⟨pm_MO.go (mo_iload _ _), ?_⟩
  refine List.forall_mem_cons.mpr ⟨pm_MO.go (mo_iload _ _), ?_⟩
  refine List.forall_mem_cons.mpr ⟨pm_MO.go (mo_iload _ _), ?_⟩
  refine List.forall_mem_cons.mpr ⟨pm_MO.go (mo_iload _ _), ?_⟩
  refine List.forall_mem_cons.mpr ⟨mo_callv _ _ _, ?_⟩
  refine List.forall_mem_cons.mpr ⟨pm_MO.fin fin_iret, ?_⟩
  refine List.forall_mem_cons.mpr ⟨pm_MO.go (mo_aload _ _), ?_⟩
  refine List.forall_mem_cons.mpr ⟨pm_MO.go (mo_get _ _), ?_⟩
  refine List.forall_mem_cons.mpr ⟨pm_MO.go (mo_iload _ _), ?_⟩
  refine List.forall_mem_cons.mpr ⟨mo_call _ _, ?_⟩
  refine List.forall_mem_cons.mpr ⟨pm_MO.go (mo_istore _ _), ?_⟩
  refine List.forall_mem_cons.mpr ⟨pm_MO.go (mo_iload _ _), ?_⟩
  refine List.forall_mem_cons.mpr ⟨pm_MO.go (mo_if _ _), ?_⟩
  refine List.forall_mem_cons.mpr ⟨pm_MO.go (mo_aload _ _), ?_⟩
  refine List.forall_mem_cons.mpr ⟨pm_MO.go (mo_iload _ _), ?_⟩
  refine List.forall_mem_cons.mpr ⟨mo_callv _ _ _, ?_⟩
  refine List.forall_mem_cons.mpr ⟨pm_MO.go (mo_iload _ _), ?_⟩
  refine List.forall_mem_cons.mpr ⟨pm_MO.go (mo_icmp _ _), ?_⟩
  refine List.forall_mem_cons.mpr ⟨pm_MO.go (mo_aload _ _), ?_⟩
  refine List.forall_mem_cons.mpr ⟨pm_MO.go (mo_c _ _), ?_⟩
  refine List.forall_mem_cons.mpr ⟨pm_MO.go (mo_iload _ _), ?_⟩
  refine List.forall_mem_cons.mpr ⟨pm_MO.go (mo_c _ _), ?_⟩
  refine List.forall_mem_cons.mpr ⟨pm_MO.go (mo_iload _ _), ?_⟩
  refine List.forall_mem_cons.mpr ⟨pm_MO.go (mo_iload _ _), ?_⟩
  refine List.forall_mem_cons.mpr ⟨mo_callv _ _ _, ?_⟩
  refine List.forall_mem_cons.mpr ⟨pm_MO.go (mo_goto _), ?_⟩
  refine List.forall_mem_cons.mpr ⟨pm_MO.go (mo_aload _ _), ?_⟩
  refine List.forall_mem_cons.mpr ⟨pm_MO.go (mo_iload _ _), ?_⟩
  refine List.forall_mem_cons.mpr ⟨mo_callv _ _ _, ?_⟩
  refine List.forall_mem_cons.mpr ⟨pm_MO.fin fin_iret, ?_⟩
  exact fun _ h => absurd h List.not_mem_nil
theorem mo_Mo_parts : pm_MO M_Mo_parts.1 := pm_MO.look mo_Mo_parts_
set_option maxHeartbeats 4000000 in
theorem io_Mo_parts (hl9 : l.stackTraces = false) (hcx : pm_cx p s m args meth c y_Mo_parts prog_9_method_39_code 7 (Option.some Jvm.ClassFile.FieldType.int) w_Mo_parts) (hno : ∀ x ∈ c.exceptionTable.toList, False) (hF : pj_KF D aC z sa s) (hz : z ≤ s.heap.size ∧ n0 ≤ k0 ∧ (n0 = k0 → s.heap.size = z + n0)) (hf : 8 ≤ R.frames) (hlo : 256 ≤ R.locals) : ∀ q ∈ tb_Mo_parts, pm_IO p l e R s m args below meth c D pj_cl z b aC k0 s0 n0 pj_mi (pm_Eo below D pj_cl z b aC pj_xn args s k0 s0) q := by
  obtain ⟨hx, hb, -, hr, hlocks, hname, hown, hts⟩ := hcx
  have hG : ∀ w ∈ pj_G, w.before args s = true := fun w h => hts w (List.mem_cons_of_mem _ h)
  have hK := hF.1
  have hAO := hF.2.1
  have hSt := hF.2.2.2.2.1
  unfold tb_Mo_parts
  refine List.forall_mem_cons.mpr ⟨pm_IO.go (ps_aload_n (kk := 0) hx hb rfl (by decide +kernel)), ?_⟩
  refine List.forall_mem_cons.mpr ⟨pm_IO.go (ps_get hx hb hG in_Mo hown hK (ci := 7) rfl 3 (by decide +kernel) (hG _ wi_808) (fun _ h9 => h9) (by decide +kernel)), ?_⟩
  refine List.forall_mem_cons.mpr ⟨pm_IO.go (ps_iload_n (kk := 1) hx hb rfl (by decide +kernel)), ?_⟩
  refine List.forall_mem_cons.mpr ⟨pm_IO.go (ps_bipush hx hb (n := (123)) (v := (123)) (by decide +kernel) (by decide +kernel)), ?_⟩
  refine List.forall_mem_cons.mpr ⟨pm_IO.go (ps_bipush hx hb (n := (123)) (v := (123)) (by decide +kernel) (by decide +kernel)), ?_⟩
  refine List.forall_mem_cons.mpr ⟨pl_S hx hb hown (hG _ wi_999) (hG _ wi_1000) (hG _ wi_8) (sg_Mo_upTo hG) (nd_Mo_upTo hG) (by decide +kernel) (n := 4) (by decide +kernel) (cw_Mo_upTo hG) mi_Mo_upTo (by decide +kernel), ?_⟩
  refine List.forall_mem_cons.mpr ⟨pm_IO.go (ps_istore_n (kk := 3) hx hb rfl (by decide +kernel)), ?_⟩
  refine List.forall_mem_cons.mpr ⟨pm_IO.go (ps_aload_n (kk := 0) hx hb rfl (by decide +kernel)), ?_⟩
  refine List.forall_mem_cons.mpr ⟨pm_IO.go (ps_iload_n (kk := 2) hx hb rfl (by decide +kernel)), ?_⟩
  refine List.forall_mem_cons.mpr ⟨pm_IO.go (ps_iload_n (kk := 1) hx hb rfl (by decide +kernel)), ?_⟩
  refine List.forall_mem_cons.mpr ⟨pm_IO.go (ps_iconst hx hb (n := (1)) (v := (1)) (by decide +kernel) (by decide +kernel)), ?_⟩
  refine List.forall_mem_cons.mpr ⟨pm_IO.go (ps_iadd hx hb (by decide +kernel)), ?_⟩
  refine List.forall_mem_cons.mpr ⟨pm_IO.go (ps_iload_n (kk := 1) hx hb rfl (by decide +kernel)), ?_⟩
  refine List.forall_mem_cons.mpr ⟨pl_V hx hb hown (hG _ wi_1054) (hG _ wi_1056) (hG _ ws_Mo_truth) (sg_Mo_truth hG) (by decide +kernel) hK (ci := 7) rfl rfl (n := 3) (by decide +kernel) (cw_Mo_truth hG) mi_Mo_truth (by decide +kernel), ?_⟩
  refine List.forall_mem_cons.mpr ⟨pm_IO.go (ps_istore hx hb (by decide +kernel)), ?_⟩
  refine List.forall_mem_cons.mpr ⟨pm_IO.go (ps_aload_n (kk := 0) hx hb rfl (by decide +kernel)), ?_⟩
  refine List.forall_mem_cons.mpr ⟨pm_IO.go (ps_get hx hb hG in_Mo hown hK (ci := 7) rfl 3 (by decide +kernel) (hG _ wi_808) (fun _ h9 => h9) (by decide +kernel)), ?_⟩
  refine List.forall_mem_cons.mpr ⟨pm_IO.go (ps_iload_n (kk := 1) hx hb rfl (by decide +kernel)), ?_⟩
  refine List.forall_mem_cons.mpr ⟨pm_IO.go (ps_iald hx hb hK 0 rfl (by decide +kernel)), ?_⟩
  refine List.forall_mem_cons.mpr ⟨pm_IO.go (ps_bipush hx hb (n := (42)) (v := (42)) (by decide +kernel) (by decide +kernel)), ?_⟩
  refine List.forall_mem_cons.mpr ⟨pm_IO.go (ps_icmp_ne hx hb (off := 27) (by decide +kernel) (by decide +kernel)), ?_⟩
  refine List.forall_mem_cons.mpr ⟨pm_IO.go (ps_iload hx hb (by decide +kernel)), ?_⟩
  refine List.forall_mem_cons.mpr ⟨pm_IO.go (ps_if_ne hx hb (off := 11) (by decide +kernel) (by decide +kernel)), ?_⟩
  refine List.forall_mem_cons.mpr ⟨pm_IO.go (ps_aload_n (kk := 0) hx hb rfl (by decide +kernel)), ?_⟩
  refine List.forall_mem_cons.mpr ⟨pm_IO.go (ps_iload_n (kk := 1) hx hb rfl (by decide +kernel)), ?_⟩
  refine List.forall_mem_cons.mpr ⟨pl_V hx hb hown (hG _ wi_1076) (hG _ wi_1078) (hG _ ws_Mo_behindAll) (sg_Mo_behindAll hG) (by decide +kernel) hK (ci := 7) rfl rfl (n := 1) (by decide +kernel) (cw_Mo_behindAll hG) mi_Mo_behindAll (by decide +kernel), ?_⟩
  refine List.forall_mem_cons.mpr ⟨pm_IO.go (ps_goto hx hb (off := 13) (by decide +kernel) (by decide +kernel)), ?_⟩
  refine List.forall_mem_cons.mpr ⟨pm_IO.go (ps_aload_n (kk := 0) hx hb rfl (by decide +kernel)), ?_⟩
  refine List.forall_mem_cons.mpr ⟨pm_IO.go (ps_iload_n (kk := 1) hx hb rfl (by decide +kernel)), ?_⟩
  refine List.forall_mem_cons.mpr ⟨pm_IO.go (ps_iload_n (kk := 2) hx hb rfl (by decide +kernel)), ?_⟩
  refine List.forall_mem_cons.mpr ⟨pm_IO.go (ps_iconst hx hb (n := (0)) (v := (0)) (by decide +kernel) (by decide +kernel)), ?_⟩
  refine List.forall_mem_cons.mpr ⟨pm_IO.go (ps_iload hx hb (by decide +kernel)), ?_⟩
  refine List.forall_mem_cons.mpr ⟨pm_IO.go (ps_iload_n (kk := 3) hx hb rfl (by decide +kernel)), ?_⟩
  refine List.forall_mem_cons.mpr ⟨pl_V hx hb hown (hG _ wi_1084) (hG _ wi_1086) (hG _ ws_Mo_goInto) (sg_Mo_goInto hG) (by decide +kernel) hK (ci := 7) rfl rfl (n := 5) (by decide +kernel) (cw_Mo_goInto hG) mi_Mo_goInto (by decide +kernel), ?_⟩
  refine List.forall_mem_cons.mpr ⟨pm_IO.fin fin_iret (ps_iret hx hb hr hlocks (by decide +kernel)), ?_⟩
  refine List.forall_mem_cons.mpr ⟨pm_IO.go (ps_aload_n (kk := 0) hx hb rfl (by decide +kernel)), ?_⟩
  refine List.forall_mem_cons.mpr ⟨pm_IO.go (ps_iload_n (kk := 2) hx hb rfl (by decide +kernel)), ?_⟩
  refine List.forall_mem_cons.mpr ⟨pl_V hx hb hown (hG _ wi_1038) (hG _ wi_1040) (hG _ ws_Mo_going) (sg_Mo_going hG) (by decide +kernel) hK (ci := 7) rfl rfl (n := 1) (by decide +kernel) (cw_Mo_going hG) mi_Mo_going (by decide +kernel), ?_⟩
  refine List.forall_mem_cons.mpr ⟨pm_IO.go (ps_iload hx hb (by decide +kernel)), ?_⟩
  refine List.forall_mem_cons.mpr ⟨pm_IO.go (ps_iconst hx hb (n := (-1)) (v := (-1)) (by decide +kernel) (by decide +kernel)), ?_⟩
  refine List.forall_mem_cons.mpr ⟨pm_IO.go (ps_ixor hx hb (by decide +kernel)), ?_⟩
  refine List.forall_mem_cons.mpr ⟨pm_IO.go (ps_iand hx hb (by decide +kernel)), ?_⟩
  refine List.forall_mem_cons.mpr ⟨pm_IO.go (ps_istore hx hb (by decide +kernel)), ?_⟩
  refine List.forall_mem_cons.mpr ⟨pm_IO.go (ps_iload hx hb (by decide +kernel)), ?_⟩
  refine List.forall_mem_cons.mpr ⟨pm_IO.go (ps_if_eq hx hb (off := 15) (by decide +kernel) (by decide +kernel)), ?_⟩
  refine List.forall_mem_cons.mpr ⟨pm_IO.go (ps_aload_n (kk := 0) hx hb rfl (by decide +kernel)), ?_⟩
  refine List.forall_mem_cons.mpr ⟨pm_IO.go (ps_iconst hx hb (n := (-1)) (v := (-1)) (by decide +kernel) (by decide +kernel)), ?_⟩
  refine List.forall_mem_cons.mpr ⟨pm_IO.go (ps_iload_n (kk := 2) hx hb rfl (by decide +kernel)), ?_⟩
  refine List.forall_mem_cons.mpr ⟨pm_IO.go (ps_iload hx hb (by decide +kernel)), ?_⟩
  refine List.forall_mem_cons.mpr ⟨pm_IO.go (ps_iload hx hb (by decide +kernel)), ?_⟩
  refine List.forall_mem_cons.mpr ⟨pm_IO.go (ps_iload_n (kk := 3) hx hb rfl (by decide +kernel)), ?_⟩
  refine List.forall_mem_cons.mpr ⟨pl_V hx hb hown (hG _ wi_1084) (hG _ wi_1086) (hG _ ws_Mo_goInto) (sg_Mo_goInto hG) (by decide +kernel) hK (ci := 7) rfl rfl (n := 5) (by decide +kernel) (cw_Mo_goInto hG) mi_Mo_goInto (by decide +kernel), ?_⟩
  refine List.forall_mem_cons.mpr ⟨pm_IO.fin fin_iret (ps_iret hx hb hr hlocks (by decide +kernel)), ?_⟩
  refine List.forall_mem_cons.mpr ⟨pm_IO.go (ps_aload_n (kk := 0) hx hb rfl (by decide +kernel)), ?_⟩
  refine List.forall_mem_cons.mpr ⟨pm_IO.go (ps_get hx hb hG in_Mo hown hK (ci := 7) rfl 3 (by decide +kernel) (hG _ wi_808) (fun _ h9 => h9) (by decide +kernel)), ?_⟩
  refine List.forall_mem_cons.mpr ⟨pm_IO.go (ps_iload_n (kk := 3) hx hb rfl (by decide +kernel)), ?_⟩
  refine List.forall_mem_cons.mpr ⟨pl_S hx hb hown (hG _ wi_1073) (hG _ wi_1074) (hG _ wi_8) (sg_Mo_behind hG) (nd_Mo_behind hG) (by decide +kernel) (n := 2) (by decide +kernel) (cw_Mo_behind hG) mi_Mo_behind (by decide +kernel), ?_⟩
  refine List.forall_mem_cons.mpr ⟨pm_IO.go (ps_istore hx hb (by decide +kernel)), ?_⟩
  refine List.forall_mem_cons.mpr ⟨pm_IO.go (ps_iload hx hb (by decide +kernel)), ?_⟩
  refine List.forall_mem_cons.mpr ⟨pm_IO.go (ps_if_eq hx hb (off := 28) (by decide +kernel) (by decide +kernel)), ?_⟩
  refine List.forall_mem_cons.mpr ⟨pm_IO.go (ps_aload_n (kk := 0) hx hb rfl (by decide +kernel)), ?_⟩
  refine List.forall_mem_cons.mpr ⟨pm_IO.go (ps_iload_n (kk := 1) hx hb rfl (by decide +kernel)), ?_⟩
  refine List.forall_mem_cons.mpr ⟨pl_V hx hb hown (hG _ wi_1076) (hG _ wi_1078) (hG _ ws_Mo_behindAll) (sg_Mo_behindAll hG) (by decide +kernel) hK (ci := 7) rfl rfl (n := 1) (by decide +kernel) (cw_Mo_behindAll hG) mi_Mo_behindAll (by decide +kernel), ?_⟩
  refine List.forall_mem_cons.mpr ⟨pm_IO.go (ps_iload hx hb (by decide +kernel)), ?_⟩
  refine List.forall_mem_cons.mpr ⟨pm_IO.go (ps_icmp_le hx hb (off := 18) (by decide +kernel) (by decide +kernel)), ?_⟩
  refine List.forall_mem_cons.mpr ⟨pm_IO.go (ps_aload_n (kk := 0) hx hb rfl (by decide +kernel)), ?_⟩
  refine List.forall_mem_cons.mpr ⟨pm_IO.go (ps_bipush hx hb (n := (-2)) (v := (-2)) (by decide +kernel) (by decide +kernel)), ?_⟩
  refine List.forall_mem_cons.mpr ⟨pm_IO.go (ps_iload_n (kk := 2) hx hb rfl (by decide +kernel)), ?_⟩
  refine List.forall_mem_cons.mpr ⟨pm_IO.go (ps_iconst hx hb (n := (0)) (v := (0)) (by decide +kernel) (by decide +kernel)), ?_⟩
  refine List.forall_mem_cons.mpr ⟨pm_IO.go (ps_iload hx hb (by decide +kernel)), ?_⟩
  refine List.forall_mem_cons.mpr ⟨pm_IO.go (ps_iload hx hb (by decide +kernel)), ?_⟩
  refine List.forall_mem_cons.mpr ⟨pl_V hx hb hown (hG _ wi_1084) (hG _ wi_1086) (hG _ ws_Mo_goInto) (sg_Mo_goInto hG) (by decide +kernel) hK (ci := 7) rfl rfl (n := 5) (by decide +kernel) (cw_Mo_goInto hG) mi_Mo_goInto (by decide +kernel), ?_⟩
  refine List.forall_mem_cons.mpr ⟨pm_IO.go (ps_goto hx hb (off := 8) (by decide +kernel) (by decide +kernel)), ?_⟩
  refine List.forall_mem_cons.mpr ⟨pm_IO.go (ps_aload_n (kk := 0) hx hb rfl (by decide +kernel)), ?_⟩
  refine List.forall_mem_cons.mpr ⟨pm_IO.go (ps_iload_n (kk := 1) hx hb rfl (by decide +kernel)), ?_⟩
  refine List.forall_mem_cons.mpr ⟨pl_V hx hb hown (hG _ wi_1076) (hG _ wi_1078) (hG _ ws_Mo_behindAll) (sg_Mo_behindAll hG) (by decide +kernel) hK (ci := 7) rfl rfl (n := 1) (by decide +kernel) (cw_Mo_behindAll hG) mi_Mo_behindAll (by decide +kernel), ?_⟩
  refine List.forall_mem_cons.mpr ⟨pm_IO.fin fin_iret (ps_iret hx hb hr hlocks (by decide +kernel)), ?_⟩
  exact fun _ h => absurd h List.not_mem_nil
theorem ok_Mo_parts (hl9 : l.stackTraces = false) : pm_Ok l (pj_KF D aC z sa) D pj_cl z b aC pj_xn pj_mi (pj_P xs L) 136 :=
  pm_okW (ret := (Option.some Jvm.ClassFile.FieldType.int)) rfl rfl mi_Mo_parts rfl mo_Mo_parts (fun p e R s m args below meth c k0 s0 n0 hcx hno hF hz hf hlo => pm_B.tbl rfl (io_Mo_parts hl9 hcx hno hF hz hf hlo) (fun pc x ls h H locs LS cells slots q ce rest hl hq hS hk hs hn hce hcv hcl => ⟨fun pc1 i hM => (nomatch (show (Sum.inr true : (Nat × Nat) ⊕ Bool) = .inl (pc1, i) from hM)), fun _ => pm_pass hno hcx.2.2.2.2.1 hq hS hk hs hce hcv hcl⟩))
theorem mo_Mo_goInto_ : ∀ q ∈ tb_Mo_goInto, pm_MO q.2 := by
  unfold tb_Mo_goInto
  refine List.forall_mem_cons.mpr ⟨pm_MO.go (mo_aload _ _), ?_⟩
  refine List.forall_mem_cons.mpr ⟨pm_MO.go (mo_get _ _), ?_⟩
  refine List.forall_mem_cons.mpr ⟨pm_MO.go (mo_aload _ _), ?_⟩
  refine List.forall_mem_cons.mpr ⟨pm_MO.go (mo_get _ _), ?_⟩
  refine List.forall_mem_cons.mpr ⟨pm_MO.go (mo_iload _ _), ?_⟩
  refine List.forall_mem_cons.mpr ⟨pm_MO.go (mo_iast), ?_⟩
  refine List.forall_mem_cons.mpr ⟨pm_MO.go (mo_aload _ _), ?_⟩
  refine List.forall_mem_cons.mpr ⟨pm_MO.go (mo_get _ _), ?_⟩
  refine List.forall_mem_cons.mpr ⟨pm_MO.go (mo_aload _ _), ?_⟩
  refine List.forall_mem_cons.mpr ⟨pm_MO.go (mo_get _ _), ?_⟩
  refine List.forall_mem_cons.mpr ⟨pm_MO.go (mo_iload _ _), ?_⟩
  refine List.forall_mem_cons.mpr ⟨pm_MO.go (mo_iast), ?_⟩
  refine List.forall_mem_cons.mpr ⟨pm_MO.go (mo_aload _ _), ?_⟩
  refine List.forall_mem_cons.mpr ⟨pm_MO.go (mo_get _ _), ?_⟩
  refine List.forall_mem_cons.mpr ⟨pm_MO.go (mo_aload _ _), ?_⟩
  refine List.forall_mem_cons.mpr ⟨pm_MO.go (mo_get _ _), ?_⟩
  refine List.forall_mem_cons.mpr ⟨pm_MO.go (mo_iload _ _), ?_⟩
  refine List.forall_mem_cons.mpr ⟨pm_MO.go (mo_iast), ?_⟩
  refine List.forall_mem_cons.mpr ⟨pm_MO.go (mo_aload _ _), ?_⟩
  refine List.forall_mem_cons.mpr ⟨pm_MO.go (mo_dup), ?_⟩
  refine List.forall_mem_cons.mpr ⟨pm_MO.go (mo_get _ _), ?_⟩
  refine List.forall_mem_cons.mpr ⟨pm_MO.go (mo_c _ _), ?_⟩
  refine List.forall_mem_cons.mpr ⟨pm_MO.go (mo_i2 _), ?_⟩
  refine List.forall_mem_cons.mpr ⟨pm_MO.go (mo_put _ _ _), ?_⟩
  refine List.forall_mem_cons.mpr ⟨pm_MO.go (mo_aload _ _), ?_⟩
  refine List.forall_mem_cons.mpr ⟨pm_MO.go (mo_iload _ _), ?_⟩
  refine List.forall_mem_cons.mpr ⟨pm_MO.go (mo_put _ _ _), ?_⟩
  refine List.forall_mem_cons.mpr ⟨pm_MO.go (mo_iload _ _), ?_⟩
  refine List.forall_mem_cons.mpr ⟨pm_MO.go (mo_c _ _), ?_⟩
  refine List.forall_mem_cons.mpr ⟨pm_MO.go (mo_i2 _), ?_⟩
  refine List.forall_mem_cons.mpr ⟨pm_MO.fin fin_iret, ?_⟩
  exact fun _ h => absurd h List.not_mem_nil
theorem mo_Mo_goInto : pm_MO M_Mo_goInto.1 := pm_MO.look mo_Mo_goInto_
set_option maxHeartbeats 4000000 in
theorem io_Mo_goInto (hl9 : l.stackTraces = false) (hcx : pm_cx p s m args meth c y_Mo_goInto prog_9_method_36_code 6 (Option.some Jvm.ClassFile.FieldType.int) w_Mo_goInto) (hno : ∀ x ∈ c.exceptionTable.toList, False) (hF : pj_KF D aC z sa s) (hz : z ≤ s.heap.size ∧ n0 ≤ k0 ∧ (n0 = k0 → s.heap.size = z + n0)) (hf : 8 ≤ R.frames) (hlo : 256 ≤ R.locals) : ∀ q ∈ tb_Mo_goInto, pm_IO p l e R s m args below meth c D pj_cl z b aC k0 s0 n0 pj_mi (pm_Eo below D pj_cl z b aC pj_xn args s k0 s0) q := by
  obtain ⟨hx, hb, -, hr, hlocks, hname, hown, hts⟩ := hcx
  have hG : ∀ w ∈ pj_G, w.before args s = true := fun w h => hts w (List.mem_cons_of_mem _ h)
  have hK := hF.1
  have hAO := hF.2.1
  have hSt := hF.2.2.2.2.1
  unfold tb_Mo_goInto
  refine List.forall_mem_cons.mpr ⟨pm_IO.go (ps_aload_n (kk := 0) hx hb rfl (by decide +kernel)), ?_⟩
  refine List.forall_mem_cons.mpr ⟨pm_IO.go (ps_get hx hb hG in_Mo hown hK (ci := 7) rfl 37 (by decide +kernel) (hG _ wi_842) (fun _ h9 => h9) (by decide +kernel)), ?_⟩
  refine List.forall_mem_cons.mpr ⟨pm_IO.go (ps_aload_n (kk := 0) hx hb rfl (by decide +kernel)), ?_⟩
  refine List.forall_mem_cons.mpr ⟨pm_IO.go (ps_get hx hb hG in_Mo hown hK (ci := 7) rfl 35 (by decide +kernel) (hG _ wi_840) (fun _ h9 => h9) (by decide +kernel)), ?_⟩
  refine List.forall_mem_cons.mpr ⟨pm_IO.go (ps_iload_n (kk := 1) hx hb rfl (by decide +kernel)), ?_⟩
  refine List.forall_mem_cons.mpr ⟨pm_IO.go (ps_iast hx hb hK 0 rfl (by decide +kernel)), ?_⟩
  refine List.forall_mem_cons.mpr ⟨pm_IO.go (ps_aload_n (kk := 0) hx hb rfl (by decide +kernel)), ?_⟩
  refine List.forall_mem_cons.mpr ⟨pm_IO.go (ps_get hx hb hG in_Mo hown hK (ci := 7) rfl 38 (by decide +kernel) (hG _ wi_843) (fun _ h9 => h9) (by decide +kernel)), ?_⟩
  refine List.forall_mem_cons.mpr ⟨pm_IO.go (ps_aload_n (kk := 0) hx hb rfl (by decide +kernel)), ?_⟩
  refine List.forall_mem_cons.mpr ⟨pm_IO.go (ps_get hx hb hG in_Mo hown hK (ci := 7) rfl 35 (by decide +kernel) (hG _ wi_840) (fun _ h9 => h9) (by decide +kernel)), ?_⟩
  refine List.forall_mem_cons.mpr ⟨pm_IO.go (ps_iload_n (kk := 2) hx hb rfl (by decide +kernel)), ?_⟩
  refine List.forall_mem_cons.mpr ⟨pm_IO.go (ps_iast hx hb hK 0 rfl (by decide +kernel)), ?_⟩
  refine List.forall_mem_cons.mpr ⟨pm_IO.go (ps_aload_n (kk := 0) hx hb rfl (by decide +kernel)), ?_⟩
  refine List.forall_mem_cons.mpr ⟨pm_IO.go (ps_get hx hb hG in_Mo hown hK (ci := 7) rfl 39 (by decide +kernel) (hG _ wi_844) (fun _ h9 => h9) (by decide +kernel)), ?_⟩
  refine List.forall_mem_cons.mpr ⟨pm_IO.go (ps_aload_n (kk := 0) hx hb rfl (by decide +kernel)), ?_⟩
  refine List.forall_mem_cons.mpr ⟨pm_IO.go (ps_get hx hb hG in_Mo hown hK (ci := 7) rfl 35 (by decide +kernel) (hG _ wi_840) (fun _ h9 => h9) (by decide +kernel)), ?_⟩
  refine List.forall_mem_cons.mpr ⟨pm_IO.go (ps_iload_n (kk := 3) hx hb rfl (by decide +kernel)), ?_⟩
  refine List.forall_mem_cons.mpr ⟨pm_IO.go (ps_iast hx hb hK 0 rfl (by decide +kernel)), ?_⟩
  refine List.forall_mem_cons.mpr ⟨pm_IO.go (ps_aload_n (kk := 0) hx hb rfl (by decide +kernel)), ?_⟩
  refine List.forall_mem_cons.mpr ⟨pm_IO.go (ps_dup hx hb (by decide +kernel)), ?_⟩
  refine List.forall_mem_cons.mpr ⟨pm_IO.go (ps_get hx hb hG in_Mo hown hK (ci := 7) rfl 35 (by decide +kernel) (hG _ wi_840) (fun _ h9 => h9) (by decide +kernel)), ?_⟩
  refine List.forall_mem_cons.mpr ⟨pm_IO.go (ps_iconst hx hb (n := (1)) (v := (1)) (by decide +kernel) (by decide +kernel)), ?_⟩
  refine List.forall_mem_cons.mpr ⟨pm_IO.go (ps_iadd hx hb (by decide +kernel)), ?_⟩
  refine List.forall_mem_cons.mpr ⟨pm_IO.go (ps_put hx hb hG in_Mo ty_Mo tk_Mo nm_Mo hown hK (ci := 7) rfl 35 (by decide +kernel) (hG _ wi_840) (fun _ h9 => h9) rfl pm_fit_int (by decide +kernel)), ?_⟩
  refine List.forall_mem_cons.mpr ⟨pm_IO.go (ps_aload_n (kk := 0) hx hb rfl (by decide +kernel)), ?_⟩
  refine List.forall_mem_cons.mpr ⟨pm_IO.go (ps_iload hx hb (by decide +kernel)), ?_⟩
  refine List.forall_mem_cons.mpr ⟨pm_IO.go (ps_put hx hb hG in_Mo ty_Mo tk_Mo nm_Mo hown hK (ci := 7) rfl 36 (by decide +kernel) (hG _ wi_841) (fun _ h9 => h9) rfl pm_fit_int (by decide +kernel)), ?_⟩
  refine List.forall_mem_cons.mpr ⟨pm_IO.go (ps_iload hx hb (by decide +kernel)), ?_⟩
  refine List.forall_mem_cons.mpr ⟨pm_IO.go (ps_iconst hx hb (n := (1)) (v := (1)) (by decide +kernel) (by decide +kernel)), ?_⟩
  refine List.forall_mem_cons.mpr ⟨pm_IO.go (ps_iadd hx hb (by decide +kernel)), ?_⟩
  refine List.forall_mem_cons.mpr ⟨pm_IO.fin fin_iret (ps_iret hx hb hr hlocks (by decide +kernel)), ?_⟩
  exact fun _ h => absurd h List.not_mem_nil
theorem ok_Mo_goInto (hl9 : l.stackTraces = false) : pm_Ok l (pj_KF D aC z sa) D pj_cl z b aC pj_xn pj_mi (pj_P xs L) 137 :=
  pm_okW (ret := (Option.some Jvm.ClassFile.FieldType.int)) rfl rfl mi_Mo_goInto rfl mo_Mo_goInto (fun p e R s m args below meth c k0 s0 n0 hcx hno hF hz hf hlo => pm_B.tbl rfl (io_Mo_goInto hl9 hcx hno hF hz hf hlo) (fun pc x ls h H locs LS cells slots q ce rest hl hq hS hk hs hn hce hcv hcl => ⟨fun pc1 i hM => (nomatch (show (Sum.inr true : (Nat × Nat) ⊕ Bool) = .inl (pc1, i) from hM)), fun _ => pm_pass hno hcx.2.2.2.2.1 hq hS hk hs hce hcv hcl⟩))
theorem mo_Mo_simple_ : ∀ q ∈ tb_Mo_simple, pm_MO q.2 := by
  unfold tb_Mo_simple
  refine List.forall_mem_cons.mpr ⟨pm_MO.go (mo_aload _ _), ?_⟩
  refine List.forall_mem_cons.mpr ⟨pm_MO.go (mo_get _ _), ?_⟩
  refine List.forall_mem_cons.mpr ⟨pm_MO.go (mo_iload _ _), ?_⟩
  refine List.forall_mem_cons.mpr ⟨pm_MO.go (mo_iald), ?_⟩
  refine List.forall_mem_cons.mpr ⟨pm_MO.go (mo_c _ _), ?_⟩
  refine List.forall_mem_cons.mpr ⟨pm_MO.go (mo_icmp _ _), ?_⟩
  refine List.forall_mem_cons.mpr ⟨pm_MO.go (mo_c _ _), ?_⟩
  refine List.forall_mem_cons.mpr ⟨pm_MO.go (mo_goto _), ?_⟩
  refine List.forall_mem_cons.mpr ⟨pm_MO.go (mo_c _ _), ?_⟩
  refine List.forall_mem_cons.mpr ⟨pm_MO.go (mo_istore _ _), ?_⟩
  refine List.forall_mem_cons.mpr ⟨pm_MO.go (mo_c _ _), ?_⟩
  refine List.forall_mem_cons.mpr ⟨pm_MO.go (mo_istore _ _), ?_⟩
  refine List.forall_mem_cons.mpr ⟨pm_MO.go (mo_c _ _), ?_⟩
  refine List.forall_mem_cons.mpr ⟨pm_MO.go (mo_istore _ _), ?_⟩
  refine List.forall_mem_cons.mpr ⟨pm_MO.go (mo_iload _ _), ?_⟩
  refine List.forall_mem_cons.mpr ⟨pm_MO.go (mo_c _ _), ?_⟩
  refine List.forall_mem_cons.mpr ⟨pm_MO.go (mo_icmp _ _), ?_⟩
  refine List.forall_mem_cons.mpr ⟨pm_MO.go (mo_iload _ _), ?_⟩
  refine List.forall_mem_cons.mpr ⟨pm_MO.go (mo_iload _ _), ?_⟩
  refine List.forall_mem_cons.mpr ⟨pm_MO.go (mo_i2 _), ?_⟩
  refine List.forall_mem_cons.mpr ⟨pm_MO.go (mo_c _ _), ?_⟩
  refine List.forall_mem_cons.mpr ⟨pm_MO.go (mo_i2 _), ?_⟩
  refine List.forall_mem_cons.mpr ⟨pm_MO.go (mo_if _ _), ?_⟩
  refine List.forall_mem_cons.mpr ⟨pm_MO.go (mo_goto _), ?_⟩
  refine List.forall_mem_cons.mpr ⟨pm_MO.go (mo_iload _ _), ?_⟩
  refine List.forall_mem_cons.mpr ⟨pm_MO.go (mo_if _ _), ?_⟩
  refine List.forall_mem_cons.mpr ⟨pm_MO.go (mo_aload _ _), ?_⟩
  refine List.forall_mem_cons.mpr ⟨pm_MO.go (mo_get _ _), ?_⟩
  refine List.forall_mem_cons.mpr ⟨pm_MO.go (mo_iload _ _), ?_⟩
  refine List.forall_mem_cons.mpr ⟨pm_MO.go (mo_aload _ _), ?_⟩
  refine List.forall_mem_cons.mpr ⟨pm_MO.go (mo_iload _ _), ?_⟩
  refine List.forall_mem_cons.mpr ⟨pm_MO.go (mo_iload _ _), ?_⟩
  refine List.forall_mem_cons.mpr ⟨pm_MO.go (mo_c _ _), ?_⟩
  refine List.forall_mem_cons.mpr ⟨pm_MO.go (mo_i2 _), ?_⟩
  refine List.forall_mem_cons.mpr ⟨pm_MO.go (mo_iload _ _), ?_⟩
  refine List.forall_mem_cons.mpr ⟨mo_callv _ _ _, ?_⟩
  refine List.forall_mem_cons.mpr ⟨pm_MO.go (mo_iast), ?_⟩
  refine List.forall_mem_cons.mpr ⟨pm_MO.go (mo_goto _), ?_⟩
  refine List.forall_mem_cons.mpr ⟨pm_MO.go (mo_aload _ _), ?_⟩
  refine List.forall_mem_cons.mpr ⟨pm_MO.go (mo_iload _ _), ?_⟩
  refine List.forall_mem_cons.mpr ⟨pm_MO.go (mo_iload _ _), ?_⟩
  refine List.forall_mem_cons.mpr ⟨mo_callv _ _ _, ?_⟩
  refine List.forall_mem_cons.mpr ⟨pm_MO.go (mo_aload _ _), ?_⟩
  refine List.forall_mem_cons.mpr ⟨pm_MO.go (mo_get _ _), ?_⟩
  refine List.forall_mem_cons.mpr ⟨pm_MO.go (mo_iload _ _), ?_⟩
  refine List.forall_mem_cons.mpr ⟨pm_MO.go (mo_zald), ?_⟩
  refine List.forall_mem_cons.mpr ⟨pm_MO.go (mo_if _ _), ?_⟩
  refine List.forall_mem_cons.mpr ⟨pm_MO.go (mo_iload _ _), ?_⟩
  refine List.forall_mem_cons.mpr ⟨pm_MO.go (mo_goto _), ?_⟩
  refine List.forall_mem_cons.mpr ⟨pm_MO.go (mo_iload _ _), ?_⟩
  refine List.forall_mem_cons.mpr ⟨pm_MO.go (mo_c _ _), ?_⟩
  refine List.forall_mem_cons.mpr ⟨pm_MO.go (mo_iload _ _), ?_⟩
  refine List.forall_mem_cons.mpr ⟨pm_MO.go (mo_i2 _), ?_⟩
  refine List.forall_mem_cons.mpr ⟨pm_MO.go (mo_i2 _), ?_⟩
  refine List.forall_mem_cons.mpr ⟨pm_MO.go (mo_istore _ _), ?_⟩
  refine List.forall_mem_cons.mpr ⟨pm_MO.go (mo_iinc _ _ _), ?_⟩
  refine List.forall_mem_cons.mpr ⟨pm_MO.go (mo_goto _), ?_⟩
  refine List.forall_mem_cons.mpr ⟨pm_MO.go (mo_iload _ _), ?_⟩
  refine List.forall_mem_cons.mpr ⟨pm_MO.go (mo_if _ _), ?_⟩
  refine List.forall_mem_cons.mpr ⟨pm_MO.go (mo_aload _ _), ?_⟩
  refine List.forall_mem_cons.mpr ⟨pm_MO.go (mo_c _ _), ?_⟩
  refine List.forall_mem_cons.mpr ⟨pm_MO.go (mo_iload _ _), ?_⟩
  refine List.forall_mem_cons.mpr ⟨pm_MO.go (mo_aload _ _), ?_⟩
  refine List.forall_mem_cons.mpr ⟨pm_MO.go (mo_get _ _), ?_⟩
  refine List.forall_mem_cons.mpr ⟨pm_MO.go (mo_iload _ _), ?_⟩
  refine List.forall_mem_cons.mpr ⟨pm_MO.go (mo_c _ _), ?_⟩
  refine List.forall_mem_cons.mpr ⟨pm_MO.go (mo_i2 _), ?_⟩
  refine List.forall_mem_cons.mpr ⟨pm_MO.go (mo_iald), ?_⟩
  refine List.forall_mem_cons.mpr ⟨pm_MO.go (mo_c _ _), ?_⟩
  refine List.forall_mem_cons.mpr ⟨pm_MO.go (mo_i2 _), ?_⟩
  refine List.forall_mem_cons.mpr ⟨pm_MO.go (mo_aload _ _), ?_⟩
  refine List.forall_mem_cons.mpr ⟨pm_MO.go (mo_get _ _), ?_⟩
  refine List.forall_mem_cons.mpr ⟨pm_MO.go (mo_iload _ _), ?_⟩
  refine List.forall_mem_cons.mpr ⟨pm_MO.go (mo_c _ _), ?_⟩
  refine List.forall_mem_cons.mpr ⟨pm_MO.go (mo_i2 _), ?_⟩
  refine List.forall_mem_cons.mpr ⟨pm_MO.go (mo_iald), ?_⟩
  refine List.forall_mem_cons.mpr ⟨pm_MO.go (mo_c _ _), ?_⟩
  refine List.forall_mem_cons.mpr ⟨pm_MO.go (mo_i2 _), ?_⟩
  refine List.forall_mem_cons.mpr ⟨mo_callv _ _ _, ?_⟩
  refine List.forall_mem_cons.mpr ⟨pm_MO.fin fin_vret, ?_⟩
  exact fun _ h => absurd h List.not_mem_nil
theorem mo_Mo_simple : pm_MO M_Mo_simple.1 := pm_MO.look mo_Mo_simple_
set_option maxHeartbeats 4000000 in
theorem io_Mo_simple (hl9 : l.stackTraces = false) (hcx : pm_cx p s m args meth c y_Mo_simple prog_9_method_41_code 6 (Option.none : Option Jvm.ClassFile.FieldType) w_Mo_simple) (hno : ∀ x ∈ c.exceptionTable.toList, False) (hF : pj_KF D aC z sa s) (hz : z ≤ s.heap.size ∧ n0 ≤ k0 ∧ (n0 = k0 → s.heap.size = z + n0)) (hf : 8 ≤ R.frames) (hlo : 256 ≤ R.locals) : ∀ q ∈ tb_Mo_simple, pm_IO p l e R s m args below meth c D pj_cl z b aC k0 s0 n0 pj_mi (pm_Eo below D pj_cl z b aC pj_xn args s k0 s0) q := by
  obtain ⟨hx, hb, -, hr, hlocks, hname, hown, hts⟩ := hcx
  have hG : ∀ w ∈ pj_G, w.before args s = true := fun w h => hts w (List.mem_cons_of_mem _ h)
  have hK := hF.1
  have hAO := hF.2.1
  have hSt := hF.2.2.2.2.1
  unfold tb_Mo_simple
  refine List.forall_mem_cons.mpr ⟨pm_IO.go (ps_aload_n (kk := 0) hx hb rfl (by decide +kernel)), ?_⟩
  refine List.forall_mem_cons.mpr ⟨pm_IO.go (ps_get hx hb hG in_Mo hown hK (ci := 7) rfl 3 (by decide +kernel) (hG _ wi_808) (fun _ h9 => h9) (by decide +kernel)), ?_⟩
  refine List.forall_mem_cons.mpr ⟨pm_IO.go (ps_iload_n (kk := 1) hx hb rfl (by decide +kernel)), ?_⟩
  refine List.forall_mem_cons.mpr ⟨pm_IO.go (ps_iald hx hb hK 0 rfl (by decide +kernel)), ?_⟩
  refine List.forall_mem_cons.mpr ⟨pm_IO.go (ps_bipush hx hb (n := (88)) (v := (88)) (by decide +kernel) (by decide +kernel)), ?_⟩
  refine List.forall_mem_cons.mpr ⟨pm_IO.go (ps_icmp_ne hx hb (off := 7) (by decide +kernel) (by decide +kernel)), ?_⟩
  refine List.forall_mem_cons.mpr ⟨pm_IO.go (ps_iconst hx hb (n := (1)) (v := (1)) (by decide +kernel) (by decide +kernel)), ?_⟩
  refine List.forall_mem_cons.mpr ⟨pm_IO.go (ps_goto hx hb (off := 4) (by decide +kernel) (by decide +kernel)), ?_⟩
  refine List.forall_mem_cons.mpr ⟨pm_IO.go (ps_iconst hx hb (n := (0)) (v := (0)) (by decide +kernel) (by decide +kernel)), ?_⟩
  refine List.forall_mem_cons.mpr ⟨pm_IO.go (ps_istore_n (kk := 3) hx hb rfl (by decide +kernel)), ?_⟩
  refine List.forall_mem_cons.mpr ⟨pm_IO.go (ps_iconst hx hb (n := (0)) (v := (0)) (by decide +kernel) (by decide +kernel)), ?_⟩
  refine List.forall_mem_cons.mpr ⟨pm_IO.go (ps_istore hx hb (by decide +kernel)), ?_⟩
  refine List.forall_mem_cons.mpr ⟨pm_IO.go (ps_iconst hx hb (n := (0)) (v := (0)) (by decide +kernel) (by decide +kernel)), ?_⟩
  refine List.forall_mem_cons.mpr ⟨pm_IO.go (ps_istore hx hb (by decide +kernel)), ?_⟩
  refine List.forall_mem_cons.mpr ⟨pm_IO.go (ps_iload hx hb (by decide +kernel)), ?_⟩
  refine List.forall_mem_cons.mpr ⟨pm_IO.go (ps_bipush hx hb (n := (8)) (v := (8)) (by decide +kernel) (by decide +kernel)), ?_⟩
  refine List.forall_mem_cons.mpr ⟨pm_IO.go (ps_icmp_ge hx hb (off := 76) (by decide +kernel) (by decide +kernel)), ?_⟩
  refine List.forall_mem_cons.mpr ⟨pm_IO.go (ps_iload_n (kk := 2) hx hb rfl (by decide +kernel)), ?_⟩
  refine List.forall_mem_cons.mpr ⟨pm_IO.go (ps_iload hx hb (by decide +kernel)), ?_⟩
  refine List.forall_mem_cons.mpr ⟨pm_IO.go (ps_ishr hx hb (by decide +kernel)), ?_⟩
  refine List.forall_mem_cons.mpr ⟨pm_IO.go (ps_iconst hx hb (n := (1)) (v := (1)) (by decide +kernel) (by decide +kernel)), ?_⟩
  refine List.forall_mem_cons.mpr ⟨pm_IO.go (ps_iand hx hb (by decide +kernel)), ?_⟩
  refine List.forall_mem_cons.mpr ⟨pm_IO.go (ps_if_ne hx hb (off := 6) (by decide +kernel) (by decide +kernel)), ?_⟩
  refine List.forall_mem_cons.mpr ⟨pm_IO.go (ps_goto hx hb (off := 58) (by decide +kernel) (by decide +kernel)), ?_⟩
  refine List.forall_mem_cons.mpr ⟨pm_IO.go (ps_iload_n (kk := 3) hx hb rfl (by decide +kernel)), ?_⟩
  refine List.forall_mem_cons.mpr ⟨pm_IO.go (ps_if_eq hx hb (off := 23) (by decide +kernel) (by decide +kernel)), ?_⟩
  refine List.forall_mem_cons.mpr ⟨pm_IO.go (ps_aload_n (kk := 0) hx hb rfl (by decide +kernel)), ?_⟩
  refine List.forall_mem_cons.mpr ⟨pm_IO.go (ps_get hx hb hG in_Mo hown hK (ci := 7) rfl 33 (by decide +kernel) (hG _ wi_838) (fun _ h9 => h9) (by decide +kernel)), ?_⟩
  refine List.forall_mem_cons.mpr ⟨pm_IO.go (ps_iload hx hb (by decide +kernel)), ?_⟩
  refine List.forall_mem_cons.mpr ⟨pm_IO.go (ps_aload_n (kk := 0) hx hb rfl (by decide +kernel)), ?_⟩
  refine List.forall_mem_cons.mpr ⟨pm_IO.go (ps_iload hx hb (by decide +kernel)), ?_⟩
  refine List.forall_mem_cons.mpr ⟨pm_IO.go (ps_iload_n (kk := 1) hx hb rfl (by decide +kernel)), ?_⟩
  refine List.forall_mem_cons.mpr ⟨pm_IO.go (ps_iconst hx hb (n := (3)) (v := (3)) (by decide +kernel) (by decide +kernel)), ?_⟩
  refine List.forall_mem_cons.mpr ⟨pm_IO.go (ps_iadd hx hb (by decide +kernel)), ?_⟩
  refine List.forall_mem_cons.mpr ⟨pm_IO.go (ps_iload_n (kk := 1) hx hb rfl (by decide +kernel)), ?_⟩
  refine List.forall_mem_cons.mpr ⟨pl_V hx hb hown (hG _ wi_1058) (hG _ wi_1060) (hG _ ws_Mo_valueOf) (sg_Mo_valueOf hG) (by decide +kernel) hK (ci := 7) rfl rfl (n := 3) (by decide +kernel) (cw_Mo_valueOf hG) mi_Mo_valueOf (by decide +kernel), ?_⟩
  refine List.forall_mem_cons.mpr ⟨pm_IO.go (ps_iast hx hb hK 0 rfl (by decide +kernel)), ?_⟩
  refine List.forall_mem_cons.mpr ⟨pm_IO.go (ps_goto hx hb (off := 10) (by decide +kernel) (by decide +kernel)), ?_⟩
  refine List.forall_mem_cons.mpr ⟨pm_IO.go (ps_aload_n (kk := 0) hx hb rfl (by decide +kernel)), ?_⟩
  refine List.forall_mem_cons.mpr ⟨pm_IO.go (ps_iload hx hb (by decide +kernel)), ?_⟩
  refine List.forall_mem_cons.mpr ⟨pm_IO.go (ps_iload_n (kk := 1) hx hb rfl (by decide +kernel)), ?_⟩
  refine List.forall_mem_cons.mpr ⟨pl_V hx hb hown (hG _ wi_1092) (hG _ wi_1094) (hG _ ws_Mo_act) (sg_Mo_act hG) (by decide +kernel) hK (ci := 7) rfl rfl (n := 2) (by decide +kernel) (cw_Mo_act hG) mi_Mo_act (by decide +kernel), ?_⟩
  refine List.forall_mem_cons.mpr ⟨pm_IO.go (ps_aload_n (kk := 0) hx hb rfl (by decide +kernel)), ?_⟩
  refine List.forall_mem_cons.mpr ⟨pm_IO.go (ps_get hx hb hG in_Mo hown hK (ci := 7) rfl 18 (by decide +kernel) (hG _ wi_823) (fun _ h9 => h9) (by decide +kernel)), ?_⟩
  refine List.forall_mem_cons.mpr ⟨pm_IO.go (ps_iload hx hb (by decide +kernel)), ?_⟩
  refine List.forall_mem_cons.mpr ⟨pm_IO.go (ps_zald hx hb hK 2 rfl (by decide +kernel)), ?_⟩
  refine List.forall_mem_cons.mpr ⟨pm_IO.go (ps_if_eq hx hb (off := 8) (by decide +kernel) (by decide +kernel)), ?_⟩
  refine List.forall_mem_cons.mpr ⟨pm_IO.go (ps_iload hx hb (by decide +kernel)), ?_⟩
  refine List.forall_mem_cons.mpr ⟨pm_IO.go (ps_goto hx hb (off := 10) (by decide +kernel) (by decide +kernel)), ?_⟩
  refine List.forall_mem_cons.mpr ⟨pm_IO.go (ps_iload hx hb (by decide +kernel)), ?_⟩
  refine List.forall_mem_cons.mpr ⟨pm_IO.go (ps_iconst hx hb (n := (1)) (v := (1)) (by decide +kernel) (by decide +kernel)), ?_⟩
  refine List.forall_mem_cons.mpr ⟨pm_IO.go (ps_iload hx hb (by decide +kernel)), ?_⟩
  refine List.forall_mem_cons.mpr ⟨pm_IO.go (ps_ishl hx hb (by decide +kernel)), ?_⟩
  refine List.forall_mem_cons.mpr ⟨pm_IO.go (ps_ior hx hb (by decide +kernel)), ?_⟩
  refine List.forall_mem_cons.mpr ⟨pm_IO.go (ps_istore hx hb (by decide +kernel)), ?_⟩
  refine List.forall_mem_cons.mpr ⟨pm_IO.go (ps_iinc hx hb (n := (1)) (v := (1)) (by decide +kernel) (by decide +kernel)), ?_⟩
  refine List.forall_mem_cons.mpr ⟨pm_IO.go (ps_goto hx hb (off := -77) (by decide +kernel) (by decide +kernel)), ?_⟩
  refine List.forall_mem_cons.mpr ⟨pm_IO.go (ps_iload_n (kk := 3) hx hb rfl (by decide +kernel)), ?_⟩
  refine List.forall_mem_cons.mpr ⟨pm_IO.go (ps_if_eq hx hb (off := 32) (by decide +kernel) (by decide +kernel)), ?_⟩
  refine List.forall_mem_cons.mpr ⟨pm_IO.go (ps_aload_n (kk := 0) hx hb rfl (by decide +kernel)), ?_⟩
  refine List.forall_mem_cons.mpr ⟨pm_IO.go (ps_iconst hx hb (n := (0)) (v := (0)) (by decide +kernel) (by decide +kernel)), ?_⟩
  refine List.forall_mem_cons.mpr ⟨pm_IO.go (ps_iload hx hb (by decide +kernel)), ?_⟩
  refine List.forall_mem_cons.mpr ⟨pm_IO.go (ps_aload_n (kk := 0) hx hb rfl (by decide +kernel)), ?_⟩
  refine List.forall_mem_cons.mpr ⟨pm_IO.go (ps_get hx hb hG in_Mo hown hK (ci := 7) rfl 3 (by decide +kernel) (hG _ wi_808) (fun _ h9 => h9) (by decide +kernel)), ?_⟩
  refine List.forall_mem_cons.mpr ⟨pm_IO.go (ps_iload_n (kk := 1) hx hb rfl (by decide +kernel)), ?_⟩
  refine List.forall_mem_cons.mpr ⟨pm_IO.go (ps_iconst hx hb (n := (1)) (v := (1)) (by decide +kernel) (by decide +kernel)), ?_⟩
  refine List.forall_mem_cons.mpr ⟨pm_IO.go (ps_iadd hx hb (by decide +kernel)), ?_⟩
  refine List.forall_mem_cons.mpr ⟨pm_IO.go (ps_iald hx hb hK 0 rfl (by decide +kernel)), ?_⟩
  refine List.forall_mem_cons.mpr ⟨pm_IO.go (ps_bipush hx hb (n := (97)) (v := (97)) (by decide +kernel) (by decide +kernel)), ?_⟩
  refine List.forall_mem_cons.mpr ⟨pm_IO.go (ps_isub hx hb (by decide +kernel)), ?_⟩
  refine List.forall_mem_cons.mpr ⟨pm_IO.go (ps_aload_n (kk := 0) hx hb rfl (by decide +kernel)), ?_⟩
  refine List.forall_mem_cons.mpr ⟨pm_IO.go (ps_get hx hb hG in_Mo hown hK (ci := 7) rfl 3 (by decide +kernel) (hG _ wi_808) (fun _ h9 => h9) (by decide +kernel)), ?_⟩
  refine List.forall_mem_cons.mpr ⟨pm_IO.go (ps_iload_n (kk := 1) hx hb rfl (by decide +kernel)), ?_⟩
  refine List.forall_mem_cons.mpr ⟨pm_IO.go (ps_iconst hx hb (n := (2)) (v := (2)) (by decide +kernel) (by decide +kernel)), ?_⟩
  refine List.forall_mem_cons.mpr ⟨pm_IO.go (ps_iadd hx hb (by decide +kernel)), ?_⟩
  refine List.forall_mem_cons.mpr ⟨pm_IO.go (ps_iald hx hb hK 0 rfl (by decide +kernel)), ?_⟩
  refine List.forall_mem_cons.mpr ⟨pm_IO.go (ps_bipush hx hb (n := (97)) (v := (97)) (by decide +kernel) (by decide +kernel)), ?_⟩
  refine List.forall_mem_cons.mpr ⟨pm_IO.go (ps_isub hx hb (by decide +kernel)), ?_⟩
  refine List.forall_mem_cons.mpr ⟨pl_V hx hb hown (hG _ wi_1096) (hG _ wi_1098) (hG _ ws_Mo_exchange) (sg_Mo_exchange hG) (by decide +kernel) hK (ci := 7) rfl rfl (n := 4) (by decide +kernel) (cw_Mo_exchange hG) mi_Mo_exchange (by decide +kernel), ?_⟩
  refine List.forall_mem_cons.mpr ⟨pm_IO.fin fin_vret (ps_vret hx hb hr hlocks (by decide +kernel)), ?_⟩
  exact fun _ h => absurd h List.not_mem_nil
theorem ok_Mo_simple (hl9 : l.stackTraces = false) : pm_Ok l (pj_KF D aC z sa) D pj_cl z b aC pj_xn pj_mi (pj_P xs L) 138 :=
  pm_okW (ret := (Option.none : Option Jvm.ClassFile.FieldType)) rfl rfl mi_Mo_simple rfl mo_Mo_simple (fun p e R s m args below meth c k0 s0 n0 hcx hno hF hz hf hlo => pm_B.tbl rfl (io_Mo_simple hl9 hcx hno hF hz hf hlo) (fun pc x ls h H locs LS cells slots q ce rest hl hq hS hk hs hn hce hcv hcl => ⟨fun pc1 i hM => (nomatch (show (Sum.inr true : (Nat × Nat) ⊕ Bool) = .inl (pc1, i) from hM)), fun _ => pm_pass hno hcx.2.2.2.2.1 hq hS hk hs hce hcv hcl⟩))
end IO
