section IO
variable {p : Program} {l : Launch} {e : Env} {R : Room} {s : State} {m : MethodId} {args : Array Value} {below : List Frame} {meth : Method} {c : Code} {D : va_G} {z b : Nat} {aC : Nat → ClassId} {k0 s0 n0 : Nat} {sa : Nat → Nat} {xs : Nat → Int32} {L : Nat}
theorem mo_Mo_going_ : ∀ q ∈ tb_Mo_going, pm_MO q.2 := by
  unfold tb_Mo_going
  refine List.forall_mem_cons.mpr ⟨pm_MO.go (mo_c _ _), ?_⟩
  refine List.forall_mem_cons.mpr ⟨pm_MO.go (mo_istore _ _), ?_⟩
  refine List.forall_mem_cons.mpr ⟨pm_MO.go (mo_c _ _), ?_⟩
  refine List.forall_mem_cons.mpr ⟨pm_MO.go (mo_istore _ _), ?_⟩
  refine List.forall_mem_cons.mpr ⟨pm_MO.go (mo_iload _ _), ?_⟩
  refine List.forall_mem_cons.mpr ⟨pm_MO.go (mo_c _ _), ?_⟩
  refine List.forall_mem_cons.mpr ⟨pm_MO.go (mo_icmp _ _), ?_⟩
  refine List.forall_mem_cons.mpr ⟨pm_MO.go (mo_iload _ _), ?_⟩
  refine List.forall_mem_cons.mpr ⟨pm_MO.go (mo_iload _ _), ?_⟩
  refine List.forall_mem_cons.mpr ⟨pm_MO.go (mo_i2 _), ?_⟩
  refine List.forall_mem_cons.mpr ⟨pm_MO.go (mo_c _ _), ?_⟩
  refine List.forall_mem_cons.mpr ⟨pm_MO.go (mo_i2 _), ?_⟩
  refine List.forall_mem_cons.mpr ⟨pm_MO.go (mo_c _ _), ?_⟩
  refine List.forall_mem_cons.mpr ⟨pm_MO.go (mo_icmp _ _), ?_⟩
  refine List.forall_mem_cons.mpr ⟨pm_MO.go (mo_aload _ _), ?_⟩
  refine List.forall_mem_cons.mpr ⟨pm_MO.go (mo_get _ _), ?_⟩
  refine List.forall_mem_cons.mpr ⟨pm_MO.go (mo_iload _ _), ?_⟩
  refine List.forall_mem_cons.mpr ⟨pm_MO.go (mo_zald), ?_⟩
  refine List.forall_mem_cons.mpr ⟨pm_MO.go (mo_if _ _), ?_⟩
  refine List.forall_mem_cons.mpr ⟨pm_MO.go (mo_iload _ _), ?_⟩
  refine List.forall_mem_cons.mpr ⟨pm_MO.go (mo_c _ _), ?_⟩
  refine List.forall_mem_cons.mpr ⟨pm_MO.go (mo_iload _ _), ?_⟩
  refine List.forall_mem_cons.mpr ⟨pm_MO.go (mo_i2 _), ?_⟩
  refine List.forall_mem_cons.mpr ⟨pm_MO.go (mo_i2 _), ?_⟩
  refine List.forall_mem_cons.mpr ⟨pm_MO.go (mo_goto _), ?_⟩
  refine List.forall_mem_cons.mpr ⟨pm_MO.go (mo_iload _ _), ?_⟩
  refine List.forall_mem_cons.mpr ⟨pm_MO.go (mo_istore _ _), ?_⟩
  refine List.forall_mem_cons.mpr ⟨pm_MO.go (mo_iinc _ _ _), ?_⟩
  refine List.forall_mem_cons.mpr ⟨pm_MO.go (mo_goto _), ?_⟩
  refine List.forall_mem_cons.mpr ⟨pm_MO.go (mo_iload _ _), ?_⟩
  refine List.forall_mem_cons.mpr ⟨pm_MO.fin fin_iret, ?_⟩
  exact fun _ h => absurd h List.not_mem_nil
theorem mo_Mo_going : pm_MO M_Mo_going.1 := pm_MO.look mo_Mo_going_
set_option maxHeartbeats 4000000 in
theorem io_Mo_going (hl9 : l.stackTraces = false) (hcx : pm_cx p s m args meth c y_Mo_going prog_9_method_32_code 4 (Option.some Jvm.ClassFile.FieldType.int) w_Mo_going) (hno : ∀ x ∈ c.exceptionTable.toList, False) (hF : pj_KF D aC z sa s) (hz : z ≤ s.heap.size ∧ n0 ≤ k0 ∧ (n0 = k0 → s.heap.size = z + n0)) (hf : 8 ≤ R.frames) (hlo : 256 ≤ R.locals) : ∀ q ∈ tb_Mo_going, pm_IO p l e R s m args below meth c D pj_cl z b aC k0 s0 n0 pj_mi (pm_Eo below D pj_cl z b aC pj_xn args s k0 s0) q := by
  obtain ⟨hx, hb, -, hr, hlocks, hname, hown, hts⟩ := hcx
  have hG : ∀ w ∈ pj_G, w.before args s = true := fun w h => hts w (List.mem_cons_of_mem _ h)
  have hK := hF.1
  have hAO := hF.2.1
  have hSt := hF.2.2.2.2.1
  unfold tb_Mo_going
  refine List.forall_mem_cons.mpr ⟨pm_IO.go (ps_iconst hx hb (n := (0)) (v := (0)) (by decide +kernel) (by decide +kernel)), ?_⟩
  refine List.forall_mem_cons.mpr ⟨pm_IO.go (ps_istore_n (kk := 2) hx hb rfl (by decide +kernel)), ?_⟩
  refine List.forall_mem_cons.mpr ⟨pm_IO.go (ps_iconst hx hb (n := (0)) (v := (0)) (by decide +kernel) (by decide +kernel)), ?_⟩
  refine List.forall_mem_cons.mpr ⟨pm_IO.go (ps_istore_n (kk := 3) hx hb rfl (by decide +kernel)), ?_⟩
  refine List.forall_mem_cons.mpr ⟨pm_IO.go (ps_iload_n (kk := 3) hx hb rfl (by decide +kernel)), ?_⟩
  refine List.forall_mem_cons.mpr ⟨pm_IO.go (ps_bipush hx hb (n := (8)) (v := (8)) (by decide +kernel) (by decide +kernel)), ?_⟩
  refine List.forall_mem_cons.mpr ⟨pm_IO.go (ps_icmp_ge hx hb (off := 37) (by decide +kernel) (by decide +kernel)), ?_⟩
  refine List.forall_mem_cons.mpr ⟨pm_IO.go (ps_iload_n (kk := 1) hx hb rfl (by decide +kernel)), ?_⟩
  refine List.forall_mem_cons.mpr ⟨pm_IO.go (ps_iload_n (kk := 3) hx hb rfl (by decide +kernel)), ?_⟩
  refine List.forall_mem_cons.mpr ⟨pm_IO.go (ps_ishr hx hb (by decide +kernel)), ?_⟩
  refine List.forall_mem_cons.mpr ⟨pm_IO.go (ps_iconst hx hb (n := (1)) (v := (1)) (by decide +kernel) (by decide +kernel)), ?_⟩
  refine List.forall_mem_cons.mpr ⟨pm_IO.go (ps_iand hx hb (by decide +kernel)), ?_⟩
  refine List.forall_mem_cons.mpr ⟨pm_IO.go (ps_iconst hx hb (n := (1)) (v := (1)) (by decide +kernel) (by decide +kernel)), ?_⟩
  refine List.forall_mem_cons.mpr ⟨pm_IO.go (ps_icmp_ne hx hb (off := 20) (by decide +kernel) (by decide +kernel)), ?_⟩
  refine List.forall_mem_cons.mpr ⟨pm_IO.go (ps_aload_n (kk := 0) hx hb rfl (by decide +kernel)), ?_⟩
  refine List.forall_mem_cons.mpr ⟨pm_IO.go (ps_get hx hb hG in_Mo hown hK (ci := 7) rfl 18 (by decide +kernel) (hG _ wi_823) (fun _ h9 => h9) (by decide +kernel)), ?_⟩
  refine List.forall_mem_cons.mpr ⟨pm_IO.go (ps_iload_n (kk := 3) hx hb rfl (by decide +kernel)), ?_⟩
  refine List.forall_mem_cons.mpr ⟨pm_IO.go (ps_zald hx hb hK 2 rfl (by decide +kernel)), ?_⟩
  refine List.forall_mem_cons.mpr ⟨pm_IO.go (ps_if_ne hx hb (off := 11) (by decide +kernel) (by decide +kernel)), ?_⟩
  refine List.forall_mem_cons.mpr ⟨pm_IO.go (ps_iload_n (kk := 2) hx hb rfl (by decide +kernel)), ?_⟩
  refine List.forall_mem_cons.mpr ⟨pm_IO.go (ps_iconst hx hb (n := (1)) (v := (1)) (by decide +kernel) (by decide +kernel)), ?_⟩
  refine List.forall_mem_cons.mpr ⟨pm_IO.go (ps_iload_n (kk := 3) hx hb rfl (by decide +kernel)), ?_⟩
  refine List.forall_mem_cons.mpr ⟨pm_IO.go (ps_ishl hx hb (by decide +kernel)), ?_⟩
  refine List.forall_mem_cons.mpr ⟨pm_IO.go (ps_ior hx hb (by decide +kernel)), ?_⟩
  refine List.forall_mem_cons.mpr ⟨pm_IO.go (ps_goto hx hb (off := 4) (by decide +kernel) (by decide +kernel)), ?_⟩
  refine List.forall_mem_cons.mpr ⟨pm_IO.go (ps_iload_n (kk := 2) hx hb rfl (by decide +kernel)), ?_⟩
  refine List.forall_mem_cons.mpr ⟨pm_IO.go (ps_istore_n (kk := 2) hx hb rfl (by decide +kernel)), ?_⟩
  refine List.forall_mem_cons.mpr ⟨pm_IO.go (ps_iinc hx hb (n := (1)) (v := (1)) (by decide +kernel) (by decide +kernel)), ?_⟩
  refine List.forall_mem_cons.mpr ⟨pm_IO.go (ps_goto hx hb (off := -37) (by decide +kernel) (by decide +kernel)), ?_⟩
  refine List.forall_mem_cons.mpr ⟨pm_IO.go (ps_iload_n (kk := 2) hx hb rfl (by decide +kernel)), ?_⟩
  refine List.forall_mem_cons.mpr ⟨pm_IO.fin fin_iret (ps_iret hx hb hr hlocks (by decide +kernel)), ?_⟩
  exact fun _ h => absurd h List.not_mem_nil
theorem ok_Mo_going (hl9 : l.stackTraces = false) : pm_Ok l (pj_KF D aC z sa) D pj_cl z b aC pj_xn pj_mi (pj_P xs L) 125 :=
  pm_okW (ret := (Option.some Jvm.ClassFile.FieldType.int)) rfl rfl mi_Mo_going rfl mo_Mo_going (fun p e R s m args below meth c k0 s0 n0 hcx hno hF hz hf hlo => pm_B.tbl rfl (io_Mo_going hl9 hcx hno hF hz hf hlo) (fun pc x ls h H locs LS cells slots q ce rest hl hq hS hk hs hn hce hcv hcl => ⟨fun pc1 i hM => (nomatch (show (Sum.inr true : (Nat × Nat) ⊕ Bool) = .inl (pc1, i) from hM)), fun _ => pm_pass hno hcx.2.2.2.2.1 hq hS hk hs hce hcv hcl⟩))
theorem mo_Mo_shuts_ : ∀ q ∈ tb_Mo_shuts, pm_MO q.2 := by
  unfold tb_Mo_shuts
  refine List.forall_mem_cons.mpr ⟨pm_MO.go (mo_aload _ _), ?_⟩
  refine List.forall_mem_cons.mpr ⟨pm_MO.go (mo_get _ _), ?_⟩
  refine List.forall_mem_cons.mpr ⟨pm_MO.go (mo_aload _ _), ?_⟩
  refine List.forall_mem_cons.mpr ⟨pm_MO.go (mo_get _ _), ?_⟩
  refine List.forall_mem_cons.mpr ⟨pm_MO.go (mo_c _ _), ?_⟩
  refine List.forall_mem_cons.mpr ⟨pm_MO.go (mo_i2 _), ?_⟩
  refine List.forall_mem_cons.mpr ⟨pm_MO.go (mo_iald), ?_⟩
  refine List.forall_mem_cons.mpr ⟨pm_MO.go (mo_istore _ _), ?_⟩
  refine List.forall_mem_cons.mpr ⟨pm_MO.go (mo_iload _ _), ?_⟩
  refine List.forall_mem_cons.mpr ⟨pm_MO.go (mo_if _ _), ?_⟩
  refine List.forall_mem_cons.mpr ⟨pm_MO.go (mo_aload _ _), ?_⟩
  refine List.forall_mem_cons.mpr ⟨pm_MO.go (mo_aload _ _), ?_⟩
  refine List.forall_mem_cons.mpr ⟨pm_MO.go (mo_get _ _), ?_⟩
  refine List.forall_mem_cons.mpr ⟨mo_callv _ _ _, ?_⟩
  refine List.forall_mem_cons.mpr ⟨pm_MO.go (mo_istore _ _), ?_⟩
  refine List.forall_mem_cons.mpr ⟨pm_MO.go (mo_iload _ _), ?_⟩
  refine List.forall_mem_cons.mpr ⟨pm_MO.go (mo_if _ _), ?_⟩
  refine List.forall_mem_cons.mpr ⟨pm_MO.go (mo_aload _ _), ?_⟩
  refine List.forall_mem_cons.mpr ⟨pm_MO.go (mo_iload _ _), ?_⟩
  refine List.forall_mem_cons.mpr ⟨pm_MO.go (mo_c _ _), ?_⟩
  refine List.forall_mem_cons.mpr ⟨pm_MO.go (mo_i2 _), ?_⟩
  refine List.forall_mem_cons.mpr ⟨mo_callv _ _ _, ?_⟩
  refine List.forall_mem_cons.mpr ⟨pm_MO.fin fin_iret, ?_⟩
  refine List.forall_mem_cons.mpr ⟨pm_MO.go (mo_aload _ _), ?_⟩
  refine List.forall_mem_cons.mpr ⟨pm_MO.go (mo_iload _ _), ?_⟩
  refine List.forall_mem_cons.mpr ⟨mo_callv _ _ _, ?_⟩
  refine List.forall_mem_cons.mpr ⟨pm_MO.go (mo_if _ _), ?_⟩
  refine List.forall_mem_cons.mpr ⟨pm_MO.go (mo_c _ _), ?_⟩
  refine List.forall_mem_cons.mpr ⟨pm_MO.fin fin_iret, ?_⟩
  refine List.forall_mem_cons.mpr ⟨pm_MO.go (mo_aload _ _), ?_⟩
  refine List.forall_mem_cons.mpr ⟨pm_MO.go (mo_aload _ _), ?_⟩
  refine List.forall_mem_cons.mpr ⟨pm_MO.go (mo_iload _ _), ?_⟩
  refine List.forall_mem_cons.mpr ⟨pm_MO.go (mo_iload _ _), ?_⟩
  refine List.forall_mem_cons.mpr ⟨pm_MO.go (mo_c _ _), ?_⟩
  refine List.forall_mem_cons.mpr ⟨pm_MO.go (mo_i2 _), ?_⟩
  refine List.forall_mem_cons.mpr ⟨pm_MO.go (mo_iload _ _), ?_⟩
  refine List.forall_mem_cons.mpr ⟨mo_callv _ _ _, ?_⟩
  refine List.forall_mem_cons.mpr ⟨pm_MO.go (mo_put _ _ _), ?_⟩
  refine List.forall_mem_cons.mpr ⟨pm_MO.go (mo_aload _ _), ?_⟩
  refine List.forall_mem_cons.mpr ⟨pm_MO.go (mo_get _ _), ?_⟩
  refine List.forall_mem_cons.mpr ⟨pm_MO.go (mo_if _ _), ?_⟩
  refine List.forall_mem_cons.mpr ⟨pm_MO.go (mo_aload _ _), ?_⟩
  refine List.forall_mem_cons.mpr ⟨pm_MO.go (mo_iload _ _), ?_⟩
  refine List.forall_mem_cons.mpr ⟨pm_MO.go (mo_c _ _), ?_⟩
  refine List.forall_mem_cons.mpr ⟨pm_MO.go (mo_i2 _), ?_⟩
  refine List.forall_mem_cons.mpr ⟨mo_callv _ _ _, ?_⟩
  refine List.forall_mem_cons.mpr ⟨pm_MO.go (mo_goto _), ?_⟩
  refine List.forall_mem_cons.mpr ⟨pm_MO.go (mo_aload _ _), ?_⟩
  refine List.forall_mem_cons.mpr ⟨pm_MO.go (mo_get _ _), ?_⟩
  refine List.forall_mem_cons.mpr ⟨pm_MO.go (mo_iload _ _), ?_⟩
  refine List.forall_mem_cons.mpr ⟨pm_MO.go (mo_c _ _), ?_⟩
  refine List.forall_mem_cons.mpr ⟨pm_MO.go (mo_c _ _), ?_⟩
  refine List.forall_mem_cons.mpr ⟨mo_call _ _, ?_⟩
  refine List.forall_mem_cons.mpr ⟨pm_MO.go (mo_c _ _), ?_⟩
  refine List.forall_mem_cons.mpr ⟨pm_MO.go (mo_i2 _), ?_⟩
  refine List.forall_mem_cons.mpr ⟨pm_MO.fin fin_iret, ?_⟩
  refine List.forall_mem_cons.mpr ⟨pm_MO.go (mo_iload _ _), ?_⟩
  refine List.forall_mem_cons.mpr ⟨pm_MO.go (mo_c _ _), ?_⟩
  refine List.forall_mem_cons.mpr ⟨pm_MO.go (mo_icmp _ _), ?_⟩
  refine List.forall_mem_cons.mpr ⟨pm_MO.go (mo_iload _ _), ?_⟩
  refine List.forall_mem_cons.mpr ⟨pm_MO.go (mo_c _ _), ?_⟩
  refine List.forall_mem_cons.mpr ⟨pm_MO.go (mo_i2 _), ?_⟩
  refine List.forall_mem_cons.mpr ⟨pm_MO.go (mo_aload _ _), ?_⟩
  refine List.forall_mem_cons.mpr ⟨pm_MO.go (mo_get _ _), ?_⟩
  refine List.forall_mem_cons.mpr ⟨pm_MO.go (mo_icmp _ _), ?_⟩
  refine List.forall_mem_cons.mpr ⟨pm_MO.go (mo_aload _ _), ?_⟩
  refine List.forall_mem_cons.mpr ⟨pm_MO.go (mo_get _ _), ?_⟩
  refine List.forall_mem_cons.mpr ⟨pm_MO.go (mo_iload _ _), ?_⟩
  refine List.forall_mem_cons.mpr ⟨pm_MO.go (mo_c _ _), ?_⟩
  refine List.forall_mem_cons.mpr ⟨pm_MO.go (mo_i2 _), ?_⟩
  refine List.forall_mem_cons.mpr ⟨pm_MO.go (mo_iald), ?_⟩
  refine List.forall_mem_cons.mpr ⟨pm_MO.go (mo_c _ _), ?_⟩
  refine List.forall_mem_cons.mpr ⟨pm_MO.go (mo_icmp _ _), ?_⟩
  refine List.forall_mem_cons.mpr ⟨pm_MO.go (mo_c _ _), ?_⟩
  refine List.forall_mem_cons.mpr ⟨pm_MO.go (mo_goto _), ?_⟩
  refine List.forall_mem_cons.mpr ⟨pm_MO.go (mo_c _ _), ?_⟩
  refine List.forall_mem_cons.mpr ⟨pm_MO.go (mo_istore _ _), ?_⟩
  refine List.forall_mem_cons.mpr ⟨pm_MO.go (mo_iload _ _), ?_⟩
  refine List.forall_mem_cons.mpr ⟨pm_MO.go (mo_if _ _), ?_⟩
  refine List.forall_mem_cons.mpr ⟨pm_MO.go (mo_aload _ _), ?_⟩
  refine List.forall_mem_cons.mpr ⟨pm_MO.go (mo_iload _ _), ?_⟩
  refine List.forall_mem_cons.mpr ⟨pm_MO.go (mo_c _ _), ?_⟩
  refine List.forall_mem_cons.mpr ⟨pm_MO.go (mo_i2 _), ?_⟩
  refine List.forall_mem_cons.mpr ⟨mo_callv _ _ _, ?_⟩
  refine List.forall_mem_cons.mpr ⟨pm_MO.fin fin_iret, ?_⟩
  refine List.forall_mem_cons.mpr ⟨pm_MO.go (mo_aload _ _), ?_⟩
  refine List.forall_mem_cons.mpr ⟨pm_MO.go (mo_aload _ _), ?_⟩
  refine List.forall_mem_cons.mpr ⟨pm_MO.go (mo_get _ _), ?_⟩
  refine List.forall_mem_cons.mpr ⟨pm_MO.go (mo_aload _ _), ?_⟩
  refine List.forall_mem_cons.mpr ⟨pm_MO.go (mo_get _ _), ?_⟩
  refine List.forall_mem_cons.mpr ⟨pm_MO.go (mo_c _ _), ?_⟩
  refine List.forall_mem_cons.mpr ⟨pm_MO.go (mo_i2 _), ?_⟩
  refine List.forall_mem_cons.mpr ⟨pm_MO.go (mo_iald), ?_⟩
  refine List.forall_mem_cons.mpr ⟨mo_callv _ _ _, ?_⟩
  refine List.forall_mem_cons.mpr ⟨pm_MO.go (mo_istore _ _), ?_⟩
  refine List.forall_mem_cons.mpr ⟨pm_MO.go (mo_iload _ _), ?_⟩
  refine List.forall_mem_cons.mpr ⟨pm_MO.go (mo_if _ _), ?_⟩
  refine List.forall_mem_cons.mpr ⟨pm_MO.go (mo_aload _ _), ?_⟩
  refine List.forall_mem_cons.mpr ⟨pm_MO.go (mo_aload _ _), ?_⟩
  refine List.forall_mem_cons.mpr ⟨pm_MO.go (mo_get _ _), ?_⟩
  refine List.forall_mem_cons.mpr ⟨pm_MO.go (mo_iload _ _), ?_⟩
  refine List.forall_mem_cons.mpr ⟨pm_MO.go (mo_c _ _), ?_⟩
  refine List.forall_mem_cons.mpr ⟨pm_MO.go (mo_i2 _), ?_⟩
  refine List.forall_mem_cons.mpr ⟨mo_call _ _, ?_⟩
  refine List.forall_mem_cons.mpr ⟨mo_callv _ _ _, ?_⟩
  refine List.forall_mem_cons.mpr ⟨pm_MO.fin fin_iret, ?_⟩
  refine List.forall_mem_cons.mpr ⟨pm_MO.go (mo_aload _ _), ?_⟩
  refine List.forall_mem_cons.mpr ⟨pm_MO.go (mo_get _ _), ?_⟩
  refine List.forall_mem_cons.mpr ⟨pm_MO.go (mo_aload _ _), ?_⟩
  refine List.forall_mem_cons.mpr ⟨pm_MO.go (mo_get _ _), ?_⟩
  refine List.forall_mem_cons.mpr ⟨pm_MO.go (mo_c _ _), ?_⟩
  refine List.forall_mem_cons.mpr ⟨pm_MO.go (mo_i2 _), ?_⟩
  refine List.forall_mem_cons.mpr ⟨pm_MO.go (mo_c _ _), ?_⟩
  refine List.forall_mem_cons.mpr ⟨pm_MO.go (mo_iast), ?_⟩
  refine List.forall_mem_cons.mpr ⟨pm_MO.go (mo_aload _ _), ?_⟩
  refine List.forall_mem_cons.mpr ⟨pm_MO.go (mo_iload _ _), ?_⟩
  refine List.forall_mem_cons.mpr ⟨pm_MO.go (mo_put _ _ _), ?_⟩
  refine List.forall_mem_cons.mpr ⟨pm_MO.go (mo_iload _ _), ?_⟩
  refine List.forall_mem_cons.mpr ⟨pm_MO.go (mo_c _ _), ?_⟩
  refine List.forall_mem_cons.mpr ⟨pm_MO.go (mo_i2 _), ?_⟩
  refine List.forall_mem_cons.mpr ⟨pm_MO.fin fin_iret, ?_⟩
  exact fun _ h => absurd h List.not_mem_nil
theorem mo_Mo_shuts : pm_MO M_Mo_shuts.1 := pm_MO.look mo_Mo_shuts_
set_option maxHeartbeats 4000000 in
theorem io_Mo_shuts (hl9 : l.stackTraces = false) (hcx : pm_cx p s m args meth c y_Mo_shuts prog_9_method_38_code 5 (Option.some Jvm.ClassFile.FieldType.int) w_Mo_shuts) (hno : ∀ x ∈ c.exceptionTable.toList, False) (hF : pj_KF D aC z sa s) (hz : z ≤ s.heap.size ∧ n0 ≤ k0 ∧ (n0 = k0 → s.heap.size = z + n0)) (hf : 8 ≤ R.frames) (hlo : 256 ≤ R.locals) : ∀ q ∈ tb_Mo_shuts, pm_IO p l e R s m args below meth c D pj_cl z b aC k0 s0 n0 pj_mi (pm_Eo below D pj_cl z b aC pj_xn args s k0 s0) q := by
  obtain ⟨hx, hb, -, hr, hlocks, hname, hown, hts⟩ := hcx
  have hG : ∀ w ∈ pj_G, w.before args s = true := fun w h => hts w (List.mem_cons_of_mem _ h)
  have hK := hF.1
  have hAO := hF.2.1
  have hSt := hF.2.2.2.2.1
  unfold tb_Mo_shuts
  refine List.forall_mem_cons.mpr ⟨pm_IO.go (ps_aload_n (kk := 0) hx hb rfl (by decide +kernel)), ?_⟩
  refine List.forall_mem_cons.mpr ⟨pm_IO.go (ps_get hx hb hG in_Mo hown hK (ci := 7) rfl 37 (by decide +kernel) (hG _ wi_842) (fun _ h9 => h9) (by decide +kernel)), ?_⟩
  refine List.forall_mem_cons.mpr ⟨pm_IO.go (ps_aload_n (kk := 0) hx hb rfl (by decide +kernel)), ?_⟩
  refine List.forall_mem_cons.mpr ⟨pm_IO.go (ps_get hx hb hG in_Mo hown hK (ci := 7) rfl 35 (by decide +kernel) (hG _ wi_840) (fun _ h9 => h9) (by decide +kernel)), ?_⟩
  refine List.forall_mem_cons.mpr ⟨pm_IO.go (ps_iconst hx hb (n := (1)) (v := (1)) (by decide +kernel) (by decide +kernel)), ?_⟩
  refine List.forall_mem_cons.mpr ⟨pm_IO.go (ps_isub hx hb (by decide +kernel)), ?_⟩
  refine List.forall_mem_cons.mpr ⟨pm_IO.go (ps_iald hx hb hK 0 rfl (by decide +kernel)), ?_⟩
  refine List.forall_mem_cons.mpr ⟨pm_IO.go (ps_istore_n (kk := 2) hx hb rfl (by decide +kernel)), ?_⟩
  refine List.forall_mem_cons.mpr ⟨pm_IO.go (ps_iload_n (kk := 2) hx hb rfl (by decide +kernel)), ?_⟩
  refine List.forall_mem_cons.mpr ⟨pm_IO.go (ps_if_lt hx hb (off := 79) (by decide +kernel) (by decide +kernel)), ?_⟩
  refine List.forall_mem_cons.mpr ⟨pm_IO.go (ps_aload_n (kk := 0) hx hb rfl (by decide +kernel)), ?_⟩
  refine List.forall_mem_cons.mpr ⟨pm_IO.go (ps_aload_n (kk := 0) hx hb rfl (by decide +kernel)), ?_⟩
  refine List.forall_mem_cons.mpr ⟨pm_IO.go (ps_get hx hb hG in_Mo hown hK (ci := 7) rfl 36 (by decide +kernel) (hG _ wi_841) (fun _ h9 => h9) (by decide +kernel)), ?_⟩
  refine List.forall_mem_cons.mpr ⟨pl_V hx hb hown (hG _ wi_1038) (hG _ wi_1040) (hG _ ws_Mo_going) (sg_Mo_going hG) (by decide +kernel) hK (ci := 7) rfl rfl (n := 1) (by decide +kernel) (cw_Mo_going hG) mi_Mo_going (by decide +kernel), ?_⟩
  refine List.forall_mem_cons.mpr ⟨pm_IO.go (ps_istore_n (kk := 3) hx hb rfl (by decide +kernel)), ?_⟩
  refine List.forall_mem_cons.mpr ⟨pm_IO.go (ps_iload_n (kk := 3) hx hb rfl (by decide +kernel)), ?_⟩
  refine List.forall_mem_cons.mpr ⟨pm_IO.go (ps_if_ne hx hb (off := 11) (by decide +kernel) (by decide +kernel)), ?_⟩
  refine List.forall_mem_cons.mpr ⟨pm_IO.go (ps_aload_n (kk := 0) hx hb rfl (by decide +kernel)), ?_⟩
  refine List.forall_mem_cons.mpr ⟨pm_IO.go (ps_iload_n (kk := 1) hx hb rfl (by decide +kernel)), ?_⟩
  refine List.forall_mem_cons.mpr ⟨pm_IO.go (ps_iconst hx hb (n := (1)) (v := (1)) (by decide +kernel) (by decide +kernel)), ?_⟩
  refine List.forall_mem_cons.mpr ⟨pm_IO.go (ps_iadd hx hb (by decide +kernel)), ?_⟩
  refine List.forall_mem_cons.mpr ⟨pl_V hx hb hown (hG _ wi_1046) (hG _ wi_1048) (hG _ ws_Mo_goOut) (sg_Mo_goOut hG) (by decide +kernel) hK (ci := 7) rfl rfl (n := 1) (by decide +kernel) (cw_Mo_goOut hG) mi_Mo_goOut (by decide +kernel), ?_⟩
  refine List.forall_mem_cons.mpr ⟨pm_IO.fin fin_iret (ps_iret hx hb hr hlocks (by decide +kernel)), ?_⟩
  refine List.forall_mem_cons.mpr ⟨pm_IO.go (ps_aload_n (kk := 0) hx hb rfl (by decide +kernel)), ?_⟩
  refine List.forall_mem_cons.mpr ⟨pm_IO.go (ps_iload_n (kk := 3) hx hb rfl (by decide +kernel)), ?_⟩
  refine List.forall_mem_cons.mpr ⟨pl_V hx hb hown (hG _ wi_1050) (hG _ wi_1052) (hG _ ws_Mo_issues) (sg_Mo_issues hG) (by decide +kernel) hK (ci := 7) rfl rfl (n := 1) (by decide +kernel) (cw_Mo_issues hG) mi_Mo_issues (by decide +kernel), ?_⟩
  refine List.forall_mem_cons.mpr ⟨pm_IO.go (ps_if_ne hx hb (off := 5) (by decide +kernel) (by decide +kernel)), ?_⟩
  refine List.forall_mem_cons.mpr ⟨pm_IO.go (ps_iconst hx hb (n := (-1)) (v := (-1)) (by decide +kernel) (by decide +kernel)), ?_⟩
  refine List.forall_mem_cons.mpr ⟨pm_IO.fin fin_iret (ps_iret hx hb hr hlocks (by decide +kernel)), ?_⟩
  refine List.forall_mem_cons.mpr ⟨pm_IO.go (ps_aload_n (kk := 0) hx hb rfl (by decide +kernel)), ?_⟩
  refine List.forall_mem_cons.mpr ⟨pm_IO.go (ps_aload_n (kk := 0) hx hb rfl (by decide +kernel)), ?_⟩
  refine List.forall_mem_cons.mpr ⟨pm_IO.go (ps_iload_n (kk := 3) hx hb rfl (by decide +kernel)), ?_⟩
  refine List.forall_mem_cons.mpr ⟨pm_IO.go (ps_iload_n (kk := 2) hx hb rfl (by decide +kernel)), ?_⟩
  refine List.forall_mem_cons.mpr ⟨pm_IO.go (ps_iconst hx hb (n := (1)) (v := (1)) (by decide +kernel) (by decide +kernel)), ?_⟩
  refine List.forall_mem_cons.mpr ⟨pm_IO.go (ps_iadd hx hb (by decide +kernel)), ?_⟩
  refine List.forall_mem_cons.mpr ⟨pm_IO.go (ps_iload_n (kk := 2) hx hb rfl (by decide +kernel)), ?_⟩
  refine List.forall_mem_cons.mpr ⟨pl_V hx hb hown (hG _ wi_1054) (hG _ wi_1056) (hG _ ws_Mo_truth) (sg_Mo_truth hG) (by decide +kernel) hK (ci := 7) rfl rfl (n := 3) (by decide +kernel) (cw_Mo_truth hG) mi_Mo_truth (by decide +kernel), ?_⟩
  refine List.forall_mem_cons.mpr ⟨pm_IO.go (ps_put hx hb hG in_Mo ty_Mo tk_Mo nm_Mo hown hK (ci := 7) rfl 36 (by decide +kernel) (hG _ wi_841) (fun _ h9 => h9) rfl pm_fit_int (by decide +kernel)), ?_⟩
  refine List.forall_mem_cons.mpr ⟨pm_IO.go (ps_aload_n (kk := 0) hx hb rfl (by decide +kernel)), ?_⟩
  refine List.forall_mem_cons.mpr ⟨pm_IO.go (ps_get hx hb hG in_Mo hown hK (ci := 7) rfl 36 (by decide +kernel) (hG _ wi_841) (fun _ h9 => h9) (by decide +kernel)), ?_⟩
  refine List.forall_mem_cons.mpr ⟨pm_IO.go (ps_if_ne hx hb (off := 13) (by decide +kernel) (by decide +kernel)), ?_⟩
  refine List.forall_mem_cons.mpr ⟨pm_IO.go (ps_aload_n (kk := 0) hx hb rfl (by decide +kernel)), ?_⟩
  refine List.forall_mem_cons.mpr ⟨pm_IO.go (ps_iload_n (kk := 1) hx hb rfl (by decide +kernel)), ?_⟩
  refine List.forall_mem_cons.mpr ⟨pm_IO.go (ps_iconst hx hb (n := (1)) (v := (1)) (by decide +kernel) (by decide +kernel)), ?_⟩
  refine List.forall_mem_cons.mpr ⟨pm_IO.go (ps_iadd hx hb (by decide +kernel)), ?_⟩
  refine List.forall_mem_cons.mpr ⟨pl_V hx hb hown (hG _ wi_1046) (hG _ wi_1048) (hG _ ws_Mo_goOut) (sg_Mo_goOut hG) (by decide +kernel) hK (ci := 7) rfl rfl (n := 1) (by decide +kernel) (cw_Mo_goOut hG) mi_Mo_goOut (by decide +kernel), ?_⟩
  refine List.forall_mem_cons.mpr ⟨pm_IO.go (ps_goto hx hb (off := 17) (by decide +kernel) (by decide +kernel)), ?_⟩
  refine List.forall_mem_cons.mpr ⟨pm_IO.go (ps_aload_n (kk := 0) hx hb rfl (by decide +kernel)), ?_⟩
  refine List.forall_mem_cons.mpr ⟨pm_IO.go (ps_get hx hb hG in_Mo hown hK (ci := 7) rfl 3 (by decide +kernel) (hG _ wi_808) (fun _ h9 => h9) (by decide +kernel)), ?_⟩
  refine List.forall_mem_cons.mpr ⟨pm_IO.go (ps_iload_n (kk := 2) hx hb rfl (by decide +kernel)), ?_⟩
  refine List.forall_mem_cons.mpr ⟨pm_IO.go (ps_bipush hx hb (n := (123)) (v := (123)) (by decide +kernel) (by decide +kernel)), ?_⟩
  refine List.forall_mem_cons.mpr ⟨pm_IO.go (ps_bipush hx hb (n := (123)) (v := (123)) (by decide +kernel) (by decide +kernel)), ?_⟩
  refine List.forall_mem_cons.mpr ⟨pl_S hx hb hown (hG _ wi_999) (hG _ wi_1000) (hG _ wi_8) (sg_Mo_upTo hG) (nd_Mo_upTo hG) (by decide +kernel) (n := 4) (by decide +kernel) (cw_Mo_upTo hG) mi_Mo_upTo (by decide +kernel), ?_⟩
  refine List.forall_mem_cons.mpr ⟨pm_IO.go (ps_iconst hx hb (n := (1)) (v := (1)) (by decide +kernel) (by decide +kernel)), ?_⟩
  refine List.forall_mem_cons.mpr ⟨pm_IO.go (ps_iadd hx hb (by decide +kernel)), ?_⟩
  refine List.forall_mem_cons.mpr ⟨pm_IO.fin fin_iret (ps_iret hx hb hr hlocks (by decide +kernel)), ?_⟩
  refine List.forall_mem_cons.mpr ⟨pm_IO.go (ps_iload_n (kk := 2) hx hb rfl (by decide +kernel)), ?_⟩
  refine List.forall_mem_cons.mpr ⟨pm_IO.go (ps_iconst hx hb (n := (-1)) (v := (-1)) (by decide +kernel) (by decide +kernel)), ?_⟩
  refine List.forall_mem_cons.mpr ⟨pm_IO.go (ps_icmp_ne hx hb (off := 30) (by decide +kernel) (by decide +kernel)), ?_⟩
  refine List.forall_mem_cons.mpr ⟨pm_IO.go (ps_iload_n (kk := 1) hx hb rfl (by decide +kernel)), ?_⟩
  refine List.forall_mem_cons.mpr ⟨pm_IO.go (ps_iconst hx hb (n := (1)) (v := (1)) (by decide +kernel) (by decide +kernel)), ?_⟩
  refine List.forall_mem_cons.mpr ⟨pm_IO.go (ps_iadd hx hb (by decide +kernel)), ?_⟩
  refine List.forall_mem_cons.mpr ⟨pm_IO.go (ps_aload_n (kk := 0) hx hb rfl (by decide +kernel)), ?_⟩
  refine List.forall_mem_cons.mpr ⟨pm_IO.go (ps_get hx hb hG in_Mo hown hK (ci := 7) rfl 4 (by decide +kernel) (hG _ wi_809) (fun _ h9 => h9) (by decide +kernel)), ?_⟩
  refine List.forall_mem_cons.mpr ⟨pm_IO.go (ps_icmp_ge hx hb (off := 20) (by decide +kernel) (by decide +kernel)), ?_⟩
  refine List.forall_mem_cons.mpr ⟨pm_IO.go (ps_aload_n (kk := 0) hx hb rfl (by decide +kernel)), ?_⟩
  refine List.forall_mem_cons.mpr ⟨pm_IO.go (ps_get hx hb hG in_Mo hown hK (ci := 7) rfl 3 (by decide +kernel) (hG _ wi_808) (fun _ h9 => h9) (by decide +kernel)), ?_⟩
  refine List.forall_mem_cons.mpr ⟨pm_IO.go (ps_iload_n (kk := 1) hx hb rfl (by decide +kernel)), ?_⟩
  refine List.forall_mem_cons.mpr ⟨pm_IO.go (ps_iconst hx hb (n := (1)) (v := (1)) (by decide +kernel) (by decide +kernel)), ?_⟩
  refine List.forall_mem_cons.mpr ⟨pm_IO.go (ps_iadd hx hb (by decide +kernel)), ?_⟩
  refine List.forall_mem_cons.mpr ⟨pm_IO.go (ps_iald hx hb hK 0 rfl (by decide +kernel)), ?_⟩
  refine List.forall_mem_cons.mpr ⟨pm_IO.go (ps_bipush hx hb (n := (123)) (v := (123)) (by decide +kernel) (by decide +kernel)), ?_⟩
  refine List.forall_mem_cons.mpr ⟨pm_IO.go (ps_icmp_ne hx hb (off := 7) (by decide +kernel) (by decide +kernel)), ?_⟩
  refine List.forall_mem_cons.mpr ⟨pm_IO.go (ps_iconst hx hb (n := (1)) (v := (1)) (by decide +kernel) (by decide +kernel)), ?_⟩
  refine List.forall_mem_cons.mpr ⟨pm_IO.go (ps_goto hx hb (off := 4) (by decide +kernel) (by decide +kernel)), ?_⟩
  refine List.forall_mem_cons.mpr ⟨pm_IO.go (ps_iconst hx hb (n := (0)) (v := (0)) (by decide +kernel) (by decide +kernel)), ?_⟩
  refine List.forall_mem_cons.mpr ⟨pm_IO.go (ps_istore_n (kk := 3) hx hb rfl (by decide +kernel)), ?_⟩
  refine List.forall_mem_cons.mpr ⟨pm_IO.go (ps_iload_n (kk := 3) hx hb rfl (by decide +kernel)), ?_⟩
  refine List.forall_mem_cons.mpr ⟨pm_IO.go (ps_if_ne hx hb (off := 11) (by decide +kernel) (by decide +kernel)), ?_⟩
  refine List.forall_mem_cons.mpr ⟨pm_IO.go (ps_aload_n (kk := 0) hx hb rfl (by decide +kernel)), ?_⟩
  refine List.forall_mem_cons.mpr ⟨pm_IO.go (ps_iload_n (kk := 1) hx hb rfl (by decide +kernel)), ?_⟩
  refine List.forall_mem_cons.mpr ⟨pm_IO.go (ps_iconst hx hb (n := (1)) (v := (1)) (by decide +kernel) (by decide +kernel)), ?_⟩
  refine List.forall_mem_cons.mpr ⟨pm_IO.go (ps_iadd hx hb (by decide +kernel)), ?_⟩
  refine List.forall_mem_cons.mpr ⟨pl_V hx hb hown (hG _ wi_1046) (hG _ wi_1048) (hG _ ws_Mo_goOut) (sg_Mo_goOut hG) (by decide +kernel) hK (ci := 7) rfl rfl (n := 1) (by decide +kernel) (cw_Mo_goOut hG) mi_Mo_goOut (by decide +kernel), ?_⟩
  refine List.forall_mem_cons.mpr ⟨pm_IO.fin fin_iret (ps_iret hx hb hr hlocks (by decide +kernel)), ?_⟩
  refine List.forall_mem_cons.mpr ⟨pm_IO.go (ps_aload_n (kk := 0) hx hb rfl (by decide +kernel)), ?_⟩
  refine List.forall_mem_cons.mpr ⟨pm_IO.go (ps_aload_n (kk := 0) hx hb rfl (by decide +kernel)), ?_⟩
  refine List.forall_mem_cons.mpr ⟨pm_IO.go (ps_get hx hb hG in_Mo hown hK (ci := 7) rfl 39 (by decide +kernel) (hG _ wi_844) (fun _ h9 => h9) (by decide +kernel)), ?_⟩
  refine List.forall_mem_cons.mpr ⟨pm_IO.go (ps_aload_n (kk := 0) hx hb rfl (by decide +kernel)), ?_⟩
  refine List.forall_mem_cons.mpr ⟨pm_IO.go (ps_get hx hb hG in_Mo hown hK (ci := 7) rfl 35 (by decide +kernel) (hG _ wi_840) (fun _ h9 => h9) (by decide +kernel)), ?_⟩
  refine List.forall_mem_cons.mpr ⟨pm_IO.go (ps_iconst hx hb (n := (1)) (v := (1)) (by decide +kernel) (by decide +kernel)), ?_⟩
  refine List.forall_mem_cons.mpr ⟨pm_IO.go (ps_isub hx hb (by decide +kernel)), ?_⟩
  refine List.forall_mem_cons.mpr ⟨pm_IO.go (ps_iald hx hb hK 0 rfl (by decide +kernel)), ?_⟩
  refine List.forall_mem_cons.mpr ⟨pl_V hx hb hown (hG _ wi_1038) (hG _ wi_1040) (hG _ ws_Mo_going) (sg_Mo_going hG) (by decide +kernel) hK (ci := 7) rfl rfl (n := 1) (by decide +kernel) (cw_Mo_going hG) mi_Mo_going (by decide +kernel), ?_⟩
  refine List.forall_mem_cons.mpr ⟨pm_IO.go (ps_istore hx hb (by decide +kernel)), ?_⟩
  refine List.forall_mem_cons.mpr ⟨pm_IO.go (ps_iload hx hb (by decide +kernel)), ?_⟩
  refine List.forall_mem_cons.mpr ⟨pm_IO.go (ps_if_ne hx hb (off := 18) (by decide +kernel) (by decide +kernel)), ?_⟩
  refine List.forall_mem_cons.mpr ⟨pm_IO.go (ps_aload_n (kk := 0) hx hb rfl (by decide +kernel)), ?_⟩
  refine List.forall_mem_cons.mpr ⟨pm_IO.go (ps_aload_n (kk := 0) hx hb rfl (by decide +kernel)), ?_⟩
  refine List.forall_mem_cons.mpr ⟨pm_IO.go (ps_get hx hb hG in_Mo hown hK (ci := 7) rfl 3 (by decide +kernel) (hG _ wi_808) (fun _ h9 => h9) (by decide +kernel)), ?_⟩
  refine List.forall_mem_cons.mpr ⟨pm_IO.go (ps_iload_n (kk := 1) hx hb rfl (by decide +kernel)), ?_⟩
  refine List.forall_mem_cons.mpr ⟨pm_IO.go (ps_iconst hx hb (n := (1)) (v := (1)) (by decide +kernel) (by decide +kernel)), ?_⟩
  refine List.forall_mem_cons.mpr ⟨pm_IO.go (ps_iadd hx hb (by decide +kernel)), ?_⟩
  refine List.forall_mem_cons.mpr ⟨pl_S hx hb hown (hG _ wi_1073) (hG _ wi_1074) (hG _ wi_8) (sg_Mo_behind hG) (nd_Mo_behind hG) (by decide +kernel) (n := 2) (by decide +kernel) (cw_Mo_behind hG) mi_Mo_behind (by decide +kernel), ?_⟩
  refine List.forall_mem_cons.mpr ⟨pl_V hx hb hown (hG _ wi_1046) (hG _ wi_1048) (hG _ ws_Mo_goOut) (sg_Mo_goOut hG) (by decide +kernel) hK (ci := 7) rfl rfl (n := 1) (by decide +kernel) (cw_Mo_goOut hG) mi_Mo_goOut (by decide +kernel), ?_⟩
  refine List.forall_mem_cons.mpr ⟨pm_IO.fin fin_iret (ps_iret hx hb hr hlocks (by decide +kernel)), ?_⟩
  refine List.forall_mem_cons.mpr ⟨pm_IO.go (ps_aload_n (kk := 0) hx hb rfl (by decide +kernel)), ?_⟩
  refine List.forall_mem_cons.mpr ⟨pm_IO.go (ps_get hx hb hG in_Mo hown hK (ci := 7) rfl 37 (by decide +kernel) (hG _ wi_842) (fun _ h9 => h9) (by decide +kernel)), ?_⟩
  refine List.forall_mem_cons.mpr ⟨pm_IO.go (ps_aload_n (kk := 0) hx hb rfl (by decide +kernel)), ?_⟩
  refine List.forall_mem_cons.mpr ⟨pm_IO.go (ps_get hx hb hG in_Mo hown hK (ci := 7) rfl 35 (by decide +kernel) (hG _ wi_840) (fun _ h9 => h9) (by decide +kernel)), ?_⟩
  refine List.forall_mem_cons.mpr ⟨pm_IO.go (ps_iconst hx hb (n := (1)) (v := (1)) (by decide +kernel) (by decide +kernel)), ?_⟩
  refine List.forall_mem_cons.mpr ⟨pm_IO.go (ps_isub hx hb (by decide +kernel)), ?_⟩
  refine List.forall_mem_cons.mpr ⟨pm_IO.go (ps_bipush hx hb (n := (-2)) (v := (-2)) (by decide +kernel) (by decide +kernel)), ?_⟩
  refine List.forall_mem_cons.mpr ⟨pm_IO.go (ps_iast hx hb hK 0 rfl (by decide +kernel)), ?_⟩
  refine List.forall_mem_cons.mpr ⟨pm_IO.go (ps_aload_n (kk := 0) hx hb rfl (by decide +kernel)), ?_⟩
  refine List.forall_mem_cons.mpr ⟨pm_IO.go (ps_iload hx hb (by decide +kernel)), ?_⟩
  refine List.forall_mem_cons.mpr ⟨pm_IO.go (ps_put hx hb hG in_Mo ty_Mo tk_Mo nm_Mo hown hK (ci := 7) rfl 36 (by decide +kernel) (hG _ wi_841) (fun _ h9 => h9) rfl pm_fit_int (by decide +kernel)), ?_⟩
  refine List.forall_mem_cons.mpr ⟨pm_IO.go (ps_iload_n (kk := 1) hx hb rfl (by decide +kernel)), ?_⟩
  refine List.forall_mem_cons.mpr ⟨pm_IO.go (ps_iconst hx hb (n := (2)) (v := (2)) (by decide +kernel) (by decide +kernel)), ?_⟩
  refine List.forall_mem_cons.mpr ⟨pm_IO.go (ps_iadd hx hb (by decide +kernel)), ?_⟩
  refine List.forall_mem_cons.mpr ⟨pm_IO.fin fin_iret (ps_iret hx hb hr hlocks (by decide +kernel)), ?_⟩
  exact fun _ h => absurd h List.not_mem_nil
theorem ok_Mo_shuts (hl9 : l.stackTraces = false) : pm_Ok l (pj_KF D aC z sa) D pj_cl z b aC pj_xn pj_mi (pj_P xs L) 126 :=
  pm_okW (ret := (Option.some Jvm.ClassFile.FieldType.int)) rfl rfl mi_Mo_shuts rfl mo_Mo_shuts (fun p e R s m args below meth c k0 s0 n0 hcx hno hF hz hf hlo => pm_B.tbl rfl (io_Mo_shuts hl9 hcx hno hF hz hf hlo) (fun pc x ls h H locs LS cells slots q ce rest hl hq hS hk hs hn hce hcv hcl => ⟨fun pc1 i hM => (nomatch (show (Sum.inr true : (Nat × Nat) ⊕ Bool) = .inl (pc1, i) from hM)), fun _ => pm_pass hno hcx.2.2.2.2.1 hq hS hk hs hce hcv hcl⟩))
theorem mo_Mo_goOut_ : ∀ q ∈ tb_Mo_goOut, pm_MO q.2 := by
  unfold tb_Mo_goOut
  refine List.forall_mem_cons.mpr ⟨pm_MO.go (mo_aload _ _), ?_⟩
  refine List.forall_mem_cons.mpr ⟨pm_MO.go (mo_dup), ?_⟩
  refine List.forall_mem_cons.mpr ⟨pm_MO.go (mo_get _ _), ?_⟩
  refine List.forall_mem_cons.mpr ⟨pm_MO.go (mo_c _ _), ?_⟩
  refine List.forall_mem_cons.mpr ⟨pm_MO.go (mo_i2 _), ?_⟩
  refine List.forall_mem_cons.mpr ⟨pm_MO.go (mo_put _ _ _), ?_⟩
  refine List.forall_mem_cons.mpr ⟨pm_MO.go (mo_aload _ _), ?_⟩
  refine List.forall_mem_cons.mpr ⟨pm_MO.go (mo_aload _ _), ?_⟩
  refine List.forall_mem_cons.mpr ⟨pm_MO.go (mo_get _ _), ?_⟩
  refine List.forall_mem_cons.mpr ⟨pm_MO.go (mo_aload _ _), ?_⟩
  refine List.forall_mem_cons.mpr ⟨pm_MO.go (mo_get _ _), ?_⟩
  refine List.forall_mem_cons.mpr ⟨pm_MO.go (mo_iald), ?_⟩
  refine List.forall_mem_cons.mpr ⟨pm_MO.go (mo_put _ _ _), ?_⟩
  refine List.forall_mem_cons.mpr ⟨pm_MO.go (mo_iload _ _), ?_⟩
  refine List.forall_mem_cons.mpr ⟨pm_MO.fin fin_iret, ?_⟩
  exact fun _ h => absurd h List.not_mem_nil
theorem mo_Mo_goOut : pm_MO M_Mo_goOut.1 := pm_MO.look mo_Mo_goOut_
set_option maxHeartbeats 4000000 in
theorem io_Mo_goOut (hl9 : l.stackTraces = false) (hcx : pm_cx p s m args meth c y_Mo_goOut prog_9_method_37_code 2 (Option.some Jvm.ClassFile.FieldType.int) w_Mo_goOut) (hno : ∀ x ∈ c.exceptionTable.toList, False) (hF : pj_KF D aC z sa s) (hz : z ≤ s.heap.size ∧ n0 ≤ k0 ∧ (n0 = k0 → s.heap.size = z + n0)) (hf : 8 ≤ R.frames) (hlo : 256 ≤ R.locals) : ∀ q ∈ tb_Mo_goOut, pm_IO p l e R s m args below meth c D pj_cl z b aC k0 s0 n0 pj_mi (pm_Eo below D pj_cl z b aC pj_xn args s k0 s0) q := by
  obtain ⟨hx, hb, -, hr, hlocks, hname, hown, hts⟩ := hcx
  have hG : ∀ w ∈ pj_G, w.before args s = true := fun w h => hts w (List.mem_cons_of_mem _ h)
  have hK := hF.1
  have hAO := hF.2.1
  have hSt := hF.2.2.2.2.1
  unfold tb_Mo_goOut
  refine List.forall_mem_cons.mpr ⟨pm_IO.go (ps_aload_n (kk := 0) hx hb rfl (by decide +kernel)), ?_⟩
  refine List.forall_mem_cons.mpr ⟨pm_IO.go (ps_dup hx hb (by decide +kernel)), ?_⟩
  refine List.forall_mem_cons.mpr ⟨pm_IO.go (ps_get hx hb hG in_Mo hown hK (ci := 7) rfl 35 (by decide +kernel) (hG _ wi_840) (fun _ h9 => h9) (by decide +kernel)), ?_⟩
  refine List.forall_mem_cons.mpr ⟨pm_IO.go (ps_iconst hx hb (n := (1)) (v := (1)) (by decide +kernel) (by decide +kernel)), ?_⟩
  refine List.forall_mem_cons.mpr ⟨pm_IO.go (ps_isub hx hb (by decide +kernel)), ?_⟩
  refine List.forall_mem_cons.mpr ⟨pm_IO.go (ps_put hx hb hG in_Mo ty_Mo tk_Mo nm_Mo hown hK (ci := 7) rfl 35 (by decide +kernel) (hG _ wi_840) (fun _ h9 => h9) rfl pm_fit_int (by decide +kernel)), ?_⟩
  refine List.forall_mem_cons.mpr ⟨pm_IO.go (ps_aload_n (kk := 0) hx hb rfl (by decide +kernel)), ?_⟩
  refine List.forall_mem_cons.mpr ⟨pm_IO.go (ps_aload_n (kk := 0) hx hb rfl (by decide +kernel)), ?_⟩
  refine List.forall_mem_cons.mpr ⟨pm_IO.go (ps_get hx hb hG in_Mo hown hK (ci := 7) rfl 38 (by decide +kernel) (hG _ wi_843) (fun _ h9 => h9) (by decide +kernel)), ?_⟩
  refine List.forall_mem_cons.mpr ⟨pm_IO.go (ps_aload_n (kk := 0) hx hb rfl (by decide +kernel)), ?_⟩
  refine List.forall_mem_cons.mpr ⟨pm_IO.go (ps_get hx hb hG in_Mo hown hK (ci := 7) rfl 35 (by decide +kernel) (hG _ wi_840) (fun _ h9 => h9) (by decide +kernel)), ?_⟩
  refine List.forall_mem_cons.mpr ⟨pm_IO.go (ps_iald hx hb hK 0 rfl (by decide +kernel)), ?_⟩
  refine List.forall_mem_cons.mpr ⟨pm_IO.go (ps_put hx hb hG in_Mo ty_Mo tk_Mo nm_Mo hown hK (ci := 7) rfl 36 (by decide +kernel) (hG _ wi_841) (fun _ h9 => h9) rfl pm_fit_int (by decide +kernel)), ?_⟩
  refine List.forall_mem_cons.mpr ⟨pm_IO.go (ps_iload_n (kk := 1) hx hb rfl (by decide +kernel)), ?_⟩
  refine List.forall_mem_cons.mpr ⟨pm_IO.fin fin_iret (ps_iret hx hb hr hlocks (by decide +kernel)), ?_⟩
  exact fun _ h => absurd h List.not_mem_nil
theorem ok_Mo_goOut (hl9 : l.stackTraces = false) : pm_Ok l (pj_KF D aC z sa) D pj_cl z b aC pj_xn pj_mi (pj_P xs L) 127 :=
  pm_okW (ret := (Option.some Jvm.ClassFile.FieldType.int)) rfl rfl mi_Mo_goOut rfl mo_Mo_goOut (fun p e R s m args below meth c k0 s0 n0 hcx hno hF hz hf hlo => pm_B.tbl rfl (io_Mo_goOut hl9 hcx hno hF hz hf hlo) (fun pc x ls h H locs LS cells slots q ce rest hl hq hS hk hs hn hce hcv hcl => ⟨fun pc1 i hM => (nomatch (show (Sum.inr true : (Nat × Nat) ⊕ Bool) = .inl (pc1, i) from hM)), fun _ => pm_pass hno hcx.2.2.2.2.1 hq hS hk hs hce hcv hcl⟩))
theorem mo_Mo_issues_ : ∀ q ∈ tb_Mo_issues, pm_MO q.2 := by
  unfold tb_Mo_issues
  refine List.forall_mem_cons.mpr ⟨pm_MO.go (mo_aload _ _), ?_⟩
  refine List.forall_mem_cons.mpr ⟨pm_MO.go (mo_get _ _), ?_⟩
  refine List.forall_mem_cons.mpr ⟨pm_MO.go (mo_aload _ _), ?_⟩
  refine List.forall_mem_cons.mpr ⟨pm_MO.go (mo_get _ _), ?_⟩
  refine List.forall_mem_cons.mpr ⟨pm_MO.go (mo_icmp _ _), ?_⟩
  refine List.forall_mem_cons.mpr ⟨pm_MO.go (mo_aload _ _), ?_⟩
  refine List.forall_mem_cons.mpr ⟨pm_MO.go (mo_c _ _), ?_⟩
  refine List.forall_mem_cons.mpr ⟨pm_MO.go (mo_put _ _ _), ?_⟩
  refine List.forall_mem_cons.mpr ⟨pm_MO.go (mo_aload _ _), ?_⟩
  refine List.forall_mem_cons.mpr ⟨pm_MO.go (mo_iload _ _), ?_⟩
  refine List.forall_mem_cons.mpr ⟨pm_MO.go (mo_put _ _ _), ?_⟩
  refine List.forall_mem_cons.mpr ⟨pm_MO.go (mo_c _ _), ?_⟩
  refine List.forall_mem_cons.mpr ⟨pm_MO.fin fin_zret, ?_⟩
  refine List.forall_mem_cons.mpr ⟨pm_MO.go (mo_aload _ _), ?_⟩
  refine List.forall_mem_cons.mpr ⟨pm_MO.go (mo_dup), ?_⟩
  refine List.forall_mem_cons.mpr ⟨pm_MO.go (mo_get _ _), ?_⟩
  refine List.forall_mem_cons.mpr ⟨pm_MO.go (mo_c _ _), ?_⟩
  refine List.forall_mem_cons.mpr ⟨pm_MO.go (mo_i2 _), ?_⟩
  refine List.forall_mem_cons.mpr ⟨pm_MO.go (mo_put _ _ _), ?_⟩
  refine List.forall_mem_cons.mpr ⟨pm_MO.go (mo_c _ _), ?_⟩
  refine List.forall_mem_cons.mpr ⟨pm_MO.go (mo_istore _ _), ?_⟩
  refine List.forall_mem_cons.mpr ⟨pm_MO.go (mo_iload _ _), ?_⟩
  refine List.forall_mem_cons.mpr ⟨pm_MO.go (mo_c _ _), ?_⟩
  refine List.forall_mem_cons.mpr ⟨pm_MO.go (mo_icmp _ _), ?_⟩
  refine List.forall_mem_cons.mpr ⟨pm_MO.go (mo_aload _ _), ?_⟩
  refine List.forall_mem_cons.mpr ⟨pm_MO.go (mo_aload _ _), ?_⟩
  refine List.forall_mem_cons.mpr ⟨pm_MO.go (mo_get _ _), ?_⟩
  refine List.forall_mem_cons.mpr ⟨pm_MO.go (mo_iload _ _), ?_⟩
  refine List.forall_mem_cons.mpr ⟨pm_MO.go (mo_iload _ _), ?_⟩
  refine List.forall_mem_cons.mpr ⟨pm_MO.go (mo_i2 _), ?_⟩
  refine List.forall_mem_cons.mpr ⟨pm_MO.go (mo_c _ _), ?_⟩
  refine List.forall_mem_cons.mpr ⟨pm_MO.go (mo_i2 _), ?_⟩
  refine List.forall_mem_cons.mpr ⟨pm_MO.go (mo_i2 _), ?_⟩
  refine List.forall_mem_cons.mpr ⟨pm_MO.go (mo_put _ _ _), ?_⟩
  refine List.forall_mem_cons.mpr ⟨pm_MO.go (mo_iinc _ _ _), ?_⟩
  refine List.forall_mem_cons.mpr ⟨pm_MO.go (mo_goto _), ?_⟩
  refine List.forall_mem_cons.mpr ⟨pm_MO.go (mo_c _ _), ?_⟩
  refine List.forall_mem_cons.mpr ⟨pm_MO.fin fin_zret, ?_⟩
  exact fun _ h => absurd h List.not_mem_nil
theorem mo_Mo_issues : pm_MO M_Mo_issues.1 := pm_MO.look mo_Mo_issues_
set_option maxHeartbeats 4000000 in
theorem io_Mo_issues (hl9 : l.stackTraces = false) (hcx : pm_cx p s m args meth c y_Mo_issues prog_9_method_33_code 3 (Option.some Jvm.ClassFile.FieldType.boolean) w_Mo_issues) (hno : ∀ x ∈ c.exceptionTable.toList, False) (hF : pj_KF D aC z sa s) (hz : z ≤ s.heap.size ∧ n0 ≤ k0 ∧ (n0 = k0 → s.heap.size = z + n0)) (hf : 8 ≤ R.frames) (hlo : 256 ≤ R.locals) : ∀ q ∈ tb_Mo_issues, pm_IO p l e R s m args below meth c D pj_cl z b aC k0 s0 n0 pj_mi (pm_Eo below D pj_cl z b aC pj_xn args s k0 s0) q := by
  obtain ⟨hx, hb, -, hr, hlocks, hname, hown, hts⟩ := hcx
  have hG : ∀ w ∈ pj_G, w.before args s = true := fun w h => hts w (List.mem_cons_of_mem _ h)
  have hK := hF.1
  have hAO := hF.2.1
  have hSt := hF.2.2.2.2.1
  unfold tb_Mo_issues
  refine List.forall_mem_cons.mpr ⟨pm_IO.go (ps_aload_n (kk := 0) hx hb rfl (by decide +kernel)), ?_⟩
  refine List.forall_mem_cons.mpr ⟨pm_IO.go (ps_get hx hb hG in_Mo hown hK (ci := 7) rfl 23 (by decide +kernel) (hG _ wi_828) (fun _ h9 => h9) (by decide +kernel)), ?_⟩
  refine List.forall_mem_cons.mpr ⟨pm_IO.go (ps_aload_n (kk := 0) hx hb rfl (by decide +kernel)), ?_⟩
  refine List.forall_mem_cons.mpr ⟨pm_IO.go (ps_get hx hb hG in_Mo hown hK (ci := 7) rfl 22 (by decide +kernel) (hG _ wi_827) (fun _ h9 => h9) (by decide +kernel)), ?_⟩
  refine List.forall_mem_cons.mpr ⟨pm_IO.go (ps_icmp_ne hx hb (off := 15) (by decide +kernel) (by decide +kernel)), ?_⟩
  refine List.forall_mem_cons.mpr ⟨pm_IO.go (ps_aload_n (kk := 0) hx hb rfl (by decide +kernel)), ?_⟩
  refine List.forall_mem_cons.mpr ⟨pm_IO.go (ps_iconst hx hb (n := (1)) (v := (1)) (by decide +kernel) (by decide +kernel)), ?_⟩
  refine List.forall_mem_cons.mpr ⟨pm_IO.go (ps_put hx hb hG in_Mo ty_Mo tk_Mo nm_Mo hown hK (ci := 7) rfl 25 (by decide +kernel) (hG _ wi_830) (fun _ h9 => h9) rfl pm_fit_bool (by decide +kernel)), ?_⟩
  refine List.forall_mem_cons.mpr ⟨pm_IO.go (ps_aload_n (kk := 0) hx hb rfl (by decide +kernel)), ?_⟩
  refine List.forall_mem_cons.mpr ⟨pm_IO.go (ps_iload_n (kk := 1) hx hb rfl (by decide +kernel)), ?_⟩
  refine List.forall_mem_cons.mpr ⟨pm_IO.go (ps_put hx hb hG in_Mo ty_Mo tk_Mo nm_Mo hown hK (ci := 7) rfl 26 (by decide +kernel) (hG _ wi_831) (fun _ h9 => h9) rfl pm_fit_int (by decide +kernel)), ?_⟩
  refine List.forall_mem_cons.mpr ⟨pm_IO.go (ps_iconst hx hb (n := (0)) (v := (0)) (by decide +kernel) (by decide +kernel)), ?_⟩
  refine List.forall_mem_cons.mpr ⟨pm_IO.fin fin_zret (ps_zret hx hb hr hlocks (by decide +kernel)), ?_⟩
  refine List.forall_mem_cons.mpr ⟨pm_IO.go (ps_aload_n (kk := 0) hx hb rfl (by decide +kernel)), ?_⟩
  refine List.forall_mem_cons.mpr ⟨pm_IO.go (ps_dup hx hb (by decide +kernel)), ?_⟩
  refine List.forall_mem_cons.mpr ⟨pm_IO.go (ps_get hx hb hG in_Mo hown hK (ci := 7) rfl 23 (by decide +kernel) (hG _ wi_828) (fun _ h9 => h9) (by decide +kernel)), ?_⟩
  refine List.forall_mem_cons.mpr ⟨pm_IO.go (ps_iconst hx hb (n := (1)) (v := (1)) (by decide +kernel) (by decide +kernel)), ?_⟩
  refine List.forall_mem_cons.mpr ⟨pm_IO.go (ps_iadd hx hb (by decide +kernel)), ?_⟩
  refine List.forall_mem_cons.mpr ⟨pm_IO.go (ps_put hx hb hG in_Mo ty_Mo tk_Mo nm_Mo hown hK (ci := 7) rfl 23 (by decide +kernel) (hG _ wi_828) (fun _ h9 => h9) rfl pm_fit_int (by decide +kernel)), ?_⟩
  refine List.forall_mem_cons.mpr ⟨pm_IO.go (ps_iconst hx hb (n := (0)) (v := (0)) (by decide +kernel) (by decide +kernel)), ?_⟩
  refine List.forall_mem_cons.mpr ⟨pm_IO.go (ps_istore_n (kk := 2) hx hb rfl (by decide +kernel)), ?_⟩
  refine List.forall_mem_cons.mpr ⟨pm_IO.go (ps_iload_n (kk := 2) hx hb rfl (by decide +kernel)), ?_⟩
  refine List.forall_mem_cons.mpr ⟨pm_IO.go (ps_bipush hx hb (n := (8)) (v := (8)) (by decide +kernel) (by decide +kernel)), ?_⟩
  refine List.forall_mem_cons.mpr ⟨pm_IO.go (ps_icmp_ge hx hb (off := 23) (by decide +kernel) (by decide +kernel)), ?_⟩
  refine List.forall_mem_cons.mpr ⟨pm_IO.go (ps_aload_n (kk := 0) hx hb rfl (by decide +kernel)), ?_⟩
  refine List.forall_mem_cons.mpr ⟨pm_IO.go (ps_aload_n (kk := 0) hx hb rfl (by decide +kernel)), ?_⟩
  refine List.forall_mem_cons.mpr ⟨pm_IO.go (ps_get hx hb hG in_Mo hown hK (ci := 7) rfl 24 (by decide +kernel) (hG _ wi_829) (fun _ h9 => h9) (by decide +kernel)), ?_⟩
  refine List.forall_mem_cons.mpr ⟨pm_IO.go (ps_iload_n (kk := 1) hx hb rfl (by decide +kernel)), ?_⟩
  refine List.forall_mem_cons.mpr ⟨pm_IO.go (ps_iload_n (kk := 2) hx hb rfl (by decide +kernel)), ?_⟩
  refine List.forall_mem_cons.mpr ⟨pm_IO.go (ps_ishr hx hb (by decide +kernel)), ?_⟩
  refine List.forall_mem_cons.mpr ⟨pm_IO.go (ps_iconst hx hb (n := (1)) (v := (1)) (by decide +kernel) (by decide +kernel)), ?_⟩
  refine List.forall_mem_cons.mpr ⟨pm_IO.go (ps_iand hx hb (by decide +kernel)), ?_⟩
  refine List.forall_mem_cons.mpr ⟨pm_IO.go (ps_iadd hx hb (by decide +kernel)), ?_⟩
  refine List.forall_mem_cons.mpr ⟨pm_IO.go (ps_put hx hb hG in_Mo ty_Mo tk_Mo nm_Mo hown hK (ci := 7) rfl 24 (by decide +kernel) (hG _ wi_829) (fun _ h9 => h9) rfl pm_fit_int (by decide +kernel)), ?_⟩
  refine List.forall_mem_cons.mpr ⟨pm_IO.go (ps_iinc hx hb (n := (1)) (v := (1)) (by decide +kernel) (by decide +kernel)), ?_⟩
  refine List.forall_mem_cons.mpr ⟨pm_IO.go (ps_goto hx hb (off := -23) (by decide +kernel) (by decide +kernel)), ?_⟩
  refine List.forall_mem_cons.mpr ⟨pm_IO.go (ps_iconst hx hb (n := (1)) (v := (1)) (by decide +kernel) (by decide +kernel)), ?_⟩
  refine List.forall_mem_cons.mpr ⟨pm_IO.fin fin_zret (ps_zret hx hb hr hlocks (by decide +kernel)), ?_⟩
  exact fun _ h => absurd h List.not_mem_nil
theorem ok_Mo_issues (hl9 : l.stackTraces = false) : pm_Ok l (pj_KF D aC z sa) D pj_cl z b aC pj_xn pj_mi (pj_P xs L) 128 :=
  pm_okW (ret := (Option.some Jvm.ClassFile.FieldType.boolean)) rfl rfl mi_Mo_issues rfl mo_Mo_issues (fun p e R s m args below meth c k0 s0 n0 hcx hno hF hz hf hlo => pm_B.tbl rfl (io_Mo_issues hl9 hcx hno hF hz hf hlo) (fun pc x ls h H locs LS cells slots q ce rest hl hq hS hk hs hn hce hcv hcl => ⟨fun pc1 i hM => (nomatch (show (Sum.inr true : (Nat × Nat) ⊕ Bool) = .inl (pc1, i) from hM)), fun _ => pm_pass hno hcx.2.2.2.2.1 hq hS hk hs hce hcv hcl⟩))
theorem mo_Mo_truth_ : ∀ q ∈ tb_Mo_truth, pm_MO q.2 := by
  unfold tb_Mo_truth
  refine List.forall_mem_cons.mpr ⟨pm_MO.go (mo_c _ _), ?_⟩
  refine List.forall_mem_cons.mpr ⟨pm_MO.go (mo_istore _ _), ?_⟩
  refine List.forall_mem_cons.mpr ⟨pm_MO.go (mo_c _ _), ?_⟩
  refine List.forall_mem_cons.mpr ⟨pm_MO.go (mo_istore _ _), ?_⟩
  refine List.forall_mem_cons.mpr ⟨pm_MO.go (mo_iload _ _), ?_⟩
  refine List.forall_mem_cons.mpr ⟨pm_MO.go (mo_c _ _), ?_⟩
  refine List.forall_mem_cons.mpr ⟨pm_MO.go (mo_icmp _ _), ?_⟩
  refine List.forall_mem_cons.mpr ⟨pm_MO.go (mo_iload _ _), ?_⟩
  refine List.forall_mem_cons.mpr ⟨pm_MO.go (mo_iload _ _), ?_⟩
  refine List.forall_mem_cons.mpr ⟨pm_MO.go (mo_i2 _), ?_⟩
  refine List.forall_mem_cons.mpr ⟨pm_MO.go (mo_c _ _), ?_⟩
  refine List.forall_mem_cons.mpr ⟨pm_MO.go (mo_i2 _), ?_⟩
  refine List.forall_mem_cons.mpr ⟨pm_MO.go (mo_if _ _), ?_⟩
  refine List.forall_mem_cons.mpr ⟨pm_MO.go (mo_goto _), ?_⟩
  refine List.forall_mem_cons.mpr ⟨pm_MO.go (mo_aload _ _), ?_⟩
  refine List.forall_mem_cons.mpr ⟨pm_MO.go (mo_iload _ _), ?_⟩
  refine List.forall_mem_cons.mpr ⟨pm_MO.go (mo_iload _ _), ?_⟩
  refine List.forall_mem_cons.mpr ⟨pm_MO.go (mo_iload _ _), ?_⟩
  refine List.forall_mem_cons.mpr ⟨mo_callv _ _ _, ?_⟩
  refine List.forall_mem_cons.mpr ⟨pm_MO.go (mo_istore _ _), ?_⟩
  refine List.forall_mem_cons.mpr ⟨pm_MO.go (mo_iload _ _), ?_⟩
  refine List.forall_mem_cons.mpr ⟨pm_MO.go (mo_if _ _), ?_⟩
  refine List.forall_mem_cons.mpr ⟨pm_MO.go (mo_aload _ _), ?_⟩
  refine List.forall_mem_cons.mpr ⟨pm_MO.go (mo_get _ _), ?_⟩
  refine List.forall_mem_cons.mpr ⟨pm_MO.go (mo_iload _ _), ?_⟩
  refine List.forall_mem_cons.mpr ⟨pm_MO.go (mo_zald), ?_⟩
  refine List.forall_mem_cons.mpr ⟨pm_MO.go (mo_if _ _), ?_⟩
  refine List.forall_mem_cons.mpr ⟨pm_MO.go (mo_iload _ _), ?_⟩
  refine List.forall_mem_cons.mpr ⟨pm_MO.go (mo_c _ _), ?_⟩
  refine List.forall_mem_cons.mpr ⟨pm_MO.go (mo_iload _ _), ?_⟩
  refine List.forall_mem_cons.mpr ⟨pm_MO.go (mo_i2 _), ?_⟩
  refine List.forall_mem_cons.mpr ⟨pm_MO.go (mo_i2 _), ?_⟩
  refine List.forall_mem_cons.mpr ⟨pm_MO.go (mo_goto _), ?_⟩
  refine List.forall_mem_cons.mpr ⟨pm_MO.go (mo_iload _ _), ?_⟩
  refine List.forall_mem_cons.mpr ⟨pm_MO.go (mo_istore _ _), ?_⟩
  refine List.forall_mem_cons.mpr ⟨pm_MO.go (mo_iinc _ _ _), ?_⟩
  refine List.forall_mem_cons.mpr ⟨pm_MO.go (mo_goto _), ?_⟩
  refine List.forall_mem_cons.mpr ⟨pm_MO.go (mo_iload _ _), ?_⟩
  refine List.forall_mem_cons.mpr ⟨pm_MO.fin fin_iret, ?_⟩
  exact fun _ h => absurd h List.not_mem_nil
theorem mo_Mo_truth : pm_MO M_Mo_truth.1 := pm_MO.look mo_Mo_truth_
set_option maxHeartbeats 4000000 in
theorem io_Mo_truth (hl9 : l.stackTraces = false) (hcx : pm_cx p s m args meth c y_Mo_truth prog_9_method_34_code 7 (Option.some Jvm.ClassFile.FieldType.int) w_Mo_truth) (hno : ∀ x ∈ c.exceptionTable.toList, False) (hF : pj_KF D aC z sa s) (hz : z ≤ s.heap.size ∧ n0 ≤ k0 ∧ (n0 = k0 → s.heap.size = z + n0)) (hf : 8 ≤ R.frames) (hlo : 256 ≤ R.locals) : ∀ q ∈ tb_Mo_truth, pm_IO p l e R s m args below meth c D pj_cl z b aC k0 s0 n0 pj_mi (pm_Eo below D pj_cl z b aC pj_xn args s k0 s0) q := by
  obtain ⟨hx, hb, -, hr, hlocks, hname, hown, hts⟩ := hcx
  have hG : ∀ w ∈ pj_G, w.before args s = true := fun w h => hts w (List.mem_cons_of_mem _ h)
  have hK := hF.1
  have hAO := hF.2.1
  have hSt := hF.2.2.2.2.1
  unfold tb_Mo_truth
  refine List.forall_mem_cons.mpr ⟨pm_IO.go (ps_iconst hx hb (n := (0)) (v := (0)) (by decide +kernel) (by decide +kernel)), ?_⟩
  refine List.forall_mem_cons.mpr ⟨pm_IO.go (ps_istore hx hb (by decide +kernel)), ?_⟩
  refine List.forall_mem_cons.mpr ⟨pm_IO.go (ps_iconst hx hb (n := (0)) (v := (0)) (by decide +kernel) (by decide +kernel)), ?_⟩
  refine List.forall_mem_cons.mpr ⟨pm_IO.go (ps_istore hx hb (by decide +kernel)), ?_⟩
  refine List.forall_mem_cons.mpr ⟨pm_IO.go (ps_iload hx hb (by decide +kernel)), ?_⟩
  refine List.forall_mem_cons.mpr ⟨pm_IO.go (ps_bipush hx hb (n := (8)) (v := (8)) (by decide +kernel) (by decide +kernel)), ?_⟩
  refine List.forall_mem_cons.mpr ⟨pm_IO.go (ps_icmp_ge hx hb (off := 60) (by decide +kernel) (by decide +kernel)), ?_⟩
  refine List.forall_mem_cons.mpr ⟨pm_IO.go (ps_iload_n (kk := 1) hx hb rfl (by decide +kernel)), ?_⟩
  refine List.forall_mem_cons.mpr ⟨pm_IO.go (ps_iload hx hb (by decide +kernel)), ?_⟩
  refine List.forall_mem_cons.mpr ⟨pm_IO.go (ps_ishr hx hb (by decide +kernel)), ?_⟩
  refine List.forall_mem_cons.mpr ⟨pm_IO.go (ps_iconst hx hb (n := (1)) (v := (1)) (by decide +kernel) (by decide +kernel)), ?_⟩
  refine List.forall_mem_cons.mpr ⟨pm_IO.go (ps_iand hx hb (by decide +kernel)), ?_⟩
  refine List.forall_mem_cons.mpr ⟨pm_IO.go (ps_if_ne hx hb (off := 6) (by decide +kernel) (by decide +kernel)), ?_⟩
  refine List.forall_mem_cons.mpr ⟨pm_IO.go (ps_goto hx hb (off := 42) (by decide +kernel) (by decide +kernel)), ?_⟩
  refine List.forall_mem_cons.mpr ⟨pm_IO.go (ps_aload_n (kk := 0) hx hb rfl (by decide +kernel)), ?_⟩
  refine List.forall_mem_cons.mpr ⟨pm_IO.go (ps_iload hx hb (by decide +kernel)), ?_⟩
  refine List.forall_mem_cons.mpr ⟨pm_IO.go (ps_iload_n (kk := 2) hx hb rfl (by decide +kernel)), ?_⟩
  refine List.forall_mem_cons.mpr ⟨pm_IO.go (ps_iload_n (kk := 3) hx hb rfl (by decide +kernel)), ?_⟩
  refine List.forall_mem_cons.mpr ⟨pl_V hx hb hown (hG _ wi_1058) (hG _ wi_1060) (hG _ ws_Mo_valueOf) (sg_Mo_valueOf hG) (by decide +kernel) hK (ci := 7) rfl rfl (n := 3) (by decide +kernel) (cw_Mo_valueOf hG) mi_Mo_valueOf (by decide +kernel), ?_⟩
  refine List.forall_mem_cons.mpr ⟨pm_IO.go (ps_istore hx hb (by decide +kernel)), ?_⟩
  refine List.forall_mem_cons.mpr ⟨pm_IO.go (ps_iload hx hb (by decide +kernel)), ?_⟩
  refine List.forall_mem_cons.mpr ⟨pm_IO.go (ps_if_eq hx hb (off := 23) (by decide +kernel) (by decide +kernel)), ?_⟩
  refine List.forall_mem_cons.mpr ⟨pm_IO.go (ps_aload_n (kk := 0) hx hb rfl (by decide +kernel)), ?_⟩
  refine List.forall_mem_cons.mpr ⟨pm_IO.go (ps_get hx hb hG in_Mo hown hK (ci := 7) rfl 18 (by decide +kernel) (hG _ wi_823) (fun _ h9 => h9) (by decide +kernel)), ?_⟩
  refine List.forall_mem_cons.mpr ⟨pm_IO.go (ps_iload hx hb (by decide +kernel)), ?_⟩
  refine List.forall_mem_cons.mpr ⟨pm_IO.go (ps_zald hx hb hK 2 rfl (by decide +kernel)), ?_⟩
  refine List.forall_mem_cons.mpr ⟨pm_IO.go (ps_if_ne hx hb (off := 13) (by decide +kernel) (by decide +kernel)), ?_⟩
  refine List.forall_mem_cons.mpr ⟨pm_IO.go (ps_iload hx hb (by decide +kernel)), ?_⟩
  refine List.forall_mem_cons.mpr ⟨pm_IO.go (ps_iconst hx hb (n := (1)) (v := (1)) (by decide +kernel) (by decide +kernel)), ?_⟩
  refine List.forall_mem_cons.mpr ⟨pm_IO.go (ps_iload hx hb (by decide +kernel)), ?_⟩
  refine List.forall_mem_cons.mpr ⟨pm_IO.go (ps_ishl hx hb (by decide +kernel)), ?_⟩
  refine List.forall_mem_cons.mpr ⟨pm_IO.go (ps_ior hx hb (by decide +kernel)), ?_⟩
  refine List.forall_mem_cons.mpr ⟨pm_IO.go (ps_goto hx hb (off := 5) (by decide +kernel) (by decide +kernel)), ?_⟩
  refine List.forall_mem_cons.mpr ⟨pm_IO.go (ps_iload hx hb (by decide +kernel)), ?_⟩
  refine List.forall_mem_cons.mpr ⟨pm_IO.go (ps_istore hx hb (by decide +kernel)), ?_⟩
  refine List.forall_mem_cons.mpr ⟨pm_IO.go (ps_iinc hx hb (n := (1)) (v := (1)) (by decide +kernel) (by decide +kernel)), ?_⟩
  refine List.forall_mem_cons.mpr ⟨pm_IO.go (ps_goto hx hb (off := -61) (by decide +kernel) (by decide +kernel)), ?_⟩
  refine List.forall_mem_cons.mpr ⟨pm_IO.go (ps_iload hx hb (by decide +kernel)), ?_⟩
  refine List.forall_mem_cons.mpr ⟨pm_IO.fin fin_iret (ps_iret hx hb hr hlocks (by decide +kernel)), ?_⟩
  exact fun _ h => absurd h List.not_mem_nil
theorem ok_Mo_truth (hl9 : l.stackTraces = false) : pm_Ok l (pj_KF D aC z sa) D pj_cl z b aC pj_xn pj_mi (pj_P xs L) 129 :=
  pm_okW (ret := (Option.some Jvm.ClassFile.FieldType.int)) rfl rfl mi_Mo_truth rfl mo_Mo_truth (fun p e R s m args below meth c k0 s0 n0 hcx hno hF hz hf hlo => pm_B.tbl rfl (io_Mo_truth hl9 hcx hno hF hz hf hlo) (fun pc x ls h H locs LS cells slots q ce rest hl hq hS hk hs hn hce hcv hcl => ⟨fun pc1 i hM => (nomatch (show (Sum.inr true : (Nat × Nat) ⊕ Bool) = .inl (pc1, i) from hM)), fun _ => pm_pass hno hcx.2.2.2.2.1 hq hS hk hs hce hcv hcl⟩))
theorem mo_Mo_valueOf_ : ∀ q ∈ tb_Mo_valueOf, pm_MO q.2 := by
  unfold tb_Mo_valueOf
  refine List.forall_mem_cons.mpr ⟨pm_MO.go (mo_aload _ _), ?_⟩
  refine List.forall_mem_cons.mpr ⟨pm_MO.go (mo_c _ _), ?_⟩
  refine List.forall_mem_cons.mpr ⟨pm_MO.go (mo_put _ _ _), ?_⟩
  refine List.forall_mem_cons.mpr ⟨pm_MO.go (mo_aload _ _), ?_⟩
  refine List.forall_mem_cons.mpr ⟨pm_MO.go (mo_iload _ _), ?_⟩
  refine List.forall_mem_cons.mpr ⟨pm_MO.go (mo_iload _ _), ?_⟩
  refine List.forall_mem_cons.mpr ⟨mo_callv _ _ _, ?_⟩
  refine List.forall_mem_cons.mpr ⟨pm_MO.go (mo_istore _ _), ?_⟩
  refine List.forall_mem_cons.mpr ⟨pm_MO.go (mo_aload _ _), ?_⟩
  refine List.forall_mem_cons.mpr ⟨pm_MO.go (mo_get _ _), ?_⟩
  refine List.forall_mem_cons.mpr ⟨pm_MO.go (mo_if _ _), ?_⟩
  refine List.forall_mem_cons.mpr ⟨pm_MO.go (mo_aload _ _), ?_⟩
  refine List.forall_mem_cons.mpr ⟨pm_MO.go (mo_get _ _), ?_⟩
  refine List.forall_mem_cons.mpr ⟨pm_MO.go (mo_iload _ _), ?_⟩
  refine List.forall_mem_cons.mpr ⟨pm_MO.go (mo_iload _ _), ?_⟩
  refine List.forall_mem_cons.mpr ⟨pm_MO.go (mo_c _ _), ?_⟩
  refine List.forall_mem_cons.mpr ⟨pm_MO.go (mo_i2 _), ?_⟩
  refine List.forall_mem_cons.mpr ⟨pm_MO.go (mo_iast), ?_⟩
  refine List.forall_mem_cons.mpr ⟨pm_MO.go (mo_aload _ _), ?_⟩
  refine List.forall_mem_cons.mpr ⟨pm_MO.go (mo_get _ _), ?_⟩
  refine List.forall_mem_cons.mpr ⟨pm_MO.go (mo_iload _ _), ?_⟩
  refine List.forall_mem_cons.mpr ⟨pm_MO.go (mo_c _ _), ?_⟩
  refine List.forall_mem_cons.mpr ⟨pm_MO.go (mo_zast), ?_⟩
  refine List.forall_mem_cons.mpr ⟨pm_MO.go (mo_iload _ _), ?_⟩
  refine List.forall_mem_cons.mpr ⟨pm_MO.fin fin_iret, ?_⟩
  exact fun _ h => absurd h List.not_mem_nil
theorem mo_Mo_valueOf : pm_MO M_Mo_valueOf.1 := pm_MO.look mo_Mo_valueOf_
set_option maxHeartbeats 4000000 in
theorem io_Mo_valueOf (hl9 : l.stackTraces = false) (hcx : pm_cx p s m args meth c y_Mo_valueOf prog_9_method_28_code 5 (Option.some Jvm.ClassFile.FieldType.int) w_Mo_valueOf) (hno : ∀ x ∈ c.exceptionTable.toList, False) (hF : pj_KF D aC z sa s) (hz : z ≤ s.heap.size ∧ n0 ≤ k0 ∧ (n0 = k0 → s.heap.size = z + n0)) (hf : 8 ≤ R.frames) (hlo : 256 ≤ R.locals) : ∀ q ∈ tb_Mo_valueOf, pm_IO p l e R s m args below meth c D pj_cl z b aC k0 s0 n0 pj_mi (pm_Eo below D pj_cl z b aC pj_xn args s k0 s0) q := by
  obtain ⟨hx, hb, -, hr, hlocks, hname, hown, hts⟩ := hcx
  have hG : ∀ w ∈ pj_G, w.before args s = true := fun w h => hts w (List.mem_cons_of_mem _ h)
  have hK := hF.1
  have hAO := hF.2.1
  have hSt := hF.2.2.2.2.1
  unfold tb_Mo_valueOf
  refine List.forall_mem_cons.mpr ⟨pm_IO.go (ps_aload_n (kk := 0) hx hb rfl (by decide +kernel)), ?_⟩
  refine List.forall_mem_cons.mpr ⟨pm_IO.go (ps_iconst hx hb (n := (0)) (v := (0)) (by decide +kernel) (by decide +kernel)), ?_⟩
  refine List.forall_mem_cons.mpr ⟨pm_IO.go (ps_put hx hb hG in_Mo ty_Mo tk_Mo nm_Mo hown hK (ci := 7) rfl 19 (by decide +kernel) (hG _ wi_824) (fun _ h9 => h9) rfl pm_fit_bool (by decide +kernel)), ?_⟩
  refine List.forall_mem_cons.mpr ⟨pm_IO.go (ps_aload_n (kk := 0) hx hb rfl (by decide +kernel)), ?_⟩
  refine List.forall_mem_cons.mpr ⟨pm_IO.go (ps_iload_n (kk := 1) hx hb rfl (by decide +kernel)), ?_⟩
  refine List.forall_mem_cons.mpr ⟨pm_IO.go (ps_iload_n (kk := 2) hx hb rfl (by decide +kernel)), ?_⟩
  refine List.forall_mem_cons.mpr ⟨pl_V hx hb hown (hG _ wi_1062) (hG _ wi_1064) (hG _ ws_Mo_reckon) (sg_Mo_reckon hG) (by decide +kernel) hK (ci := 7) rfl rfl (n := 2) (by decide +kernel) (cw_Mo_reckon hG) mi_Mo_reckon (by decide +kernel), ?_⟩
  refine List.forall_mem_cons.mpr ⟨pm_IO.go (ps_istore hx hb (by decide +kernel)), ?_⟩
  refine List.forall_mem_cons.mpr ⟨pm_IO.go (ps_aload_n (kk := 0) hx hb rfl (by decide +kernel)), ?_⟩
  refine List.forall_mem_cons.mpr ⟨pm_IO.go (ps_get hx hb hG in_Mo hown hK (ci := 7) rfl 19 (by decide +kernel) (hG _ wi_824) (fun _ h9 => h9) (by decide +kernel)), ?_⟩
  refine List.forall_mem_cons.mpr ⟨pm_IO.go (ps_if_eq hx hb (off := 19) (by decide +kernel) (by decide +kernel)), ?_⟩
  refine List.forall_mem_cons.mpr ⟨pm_IO.go (ps_aload_n (kk := 0) hx hb rfl (by decide +kernel)), ?_⟩
  refine List.forall_mem_cons.mpr ⟨pm_IO.go (ps_get hx hb hG in_Mo hown hK (ci := 7) rfl 17 (by decide +kernel) (hG _ wi_822) (fun _ h9 => h9) (by decide +kernel)), ?_⟩
  refine List.forall_mem_cons.mpr ⟨pm_IO.go (ps_iload_n (kk := 1) hx hb rfl (by decide +kernel)), ?_⟩
  refine List.forall_mem_cons.mpr ⟨pm_IO.go (ps_iload_n (kk := 3) hx hb rfl (by decide +kernel)), ?_⟩
  refine List.forall_mem_cons.mpr ⟨pm_IO.go (ps_iconst hx hb (n := (1)) (v := (1)) (by decide +kernel) (by decide +kernel)), ?_⟩
  refine List.forall_mem_cons.mpr ⟨pm_IO.go (ps_iadd hx hb (by decide +kernel)), ?_⟩
  refine List.forall_mem_cons.mpr ⟨pm_IO.go (ps_iast hx hb hK 0 rfl (by decide +kernel)), ?_⟩
  refine List.forall_mem_cons.mpr ⟨pm_IO.go (ps_aload_n (kk := 0) hx hb rfl (by decide +kernel)), ?_⟩
  refine List.forall_mem_cons.mpr ⟨pm_IO.go (ps_get hx hb hG in_Mo hown hK (ci := 7) rfl 18 (by decide +kernel) (hG _ wi_823) (fun _ h9 => h9) (by decide +kernel)), ?_⟩
  refine List.forall_mem_cons.mpr ⟨pm_IO.go (ps_iload_n (kk := 1) hx hb rfl (by decide +kernel)), ?_⟩
  refine List.forall_mem_cons.mpr ⟨pm_IO.go (ps_iconst hx hb (n := (1)) (v := (1)) (by decide +kernel) (by decide +kernel)), ?_⟩
  refine List.forall_mem_cons.mpr ⟨pm_IO.go (ps_zast hx hb hK 2 rfl (by decide +kernel)), ?_⟩
  refine List.forall_mem_cons.mpr ⟨pm_IO.go (ps_iload hx hb (by decide +kernel)), ?_⟩
  refine List.forall_mem_cons.mpr ⟨pm_IO.fin fin_iret (ps_iret hx hb hr hlocks (by decide +kernel)), ?_⟩
  exact fun _ h => absurd h List.not_mem_nil
theorem ok_Mo_valueOf (hl9 : l.stackTraces = false) : pm_Ok l (pj_KF D aC z sa) D pj_cl z b aC pj_xn pj_mi (pj_P xs L) 130 :=
  pm_okW (ret := (Option.some Jvm.ClassFile.FieldType.int)) rfl rfl mi_Mo_valueOf rfl mo_Mo_valueOf (fun p e R s m args below meth c k0 s0 n0 hcx hno hF hz hf hlo => pm_B.tbl rfl (io_Mo_valueOf hl9 hcx hno hF hz hf hlo) (fun pc x ls h H locs LS cells slots q ce rest hl hq hS hk hs hn hce hcv hcl => ⟨fun pc1 i hM => (nomatch (show (Sum.inr true : (Nat × Nat) ⊕ Bool) = .inl (pc1, i) from hM)), fun _ => pm_pass hno hcx.2.2.2.2.1 hq hS hk hs hce hcv hcl⟩))
end IO
