section IO
variable {p : Program} {l : Launch} {e : Env} {R : Room} {s : State} {m : MethodId} {args : Array Value} {below : List Frame} {meth : Method} {c : Code} {D : va_G} {z b : Nat} {aC : Nat → ClassId} {k0 s0 n0 : Nat} {sa : Nat → Nat} {xs : Nat → Int32} {L : Nat}
theorem mo_Mo_isVarying_ : ∀ q ∈ tb_Mo_isVarying, pm_MO q.2 := by
  unfold tb_Mo_isVarying
  refine List.forall_mem_cons.mpr ⟨pm_MO.go (mo_c _ _), ?_⟩
  refine List.forall_mem_cons.mpr ⟨pm_MO.go (mo_istore _ _), ?_⟩
  refine List.forall_mem_cons.mpr ⟨pm_MO.go (mo_iload _ _), ?_⟩
  refine List.forall_mem_cons.mpr ⟨pm_MO.go (mo_istore _ _), ?_⟩
  refine List.forall_mem_cons.mpr ⟨pm_MO.go (mo_iload _ _), ?_⟩
  refine List.forall_mem_cons.mpr ⟨pm_MO.go (mo_iload _ _), ?_⟩
  refine List.forall_mem_cons.mpr ⟨pm_MO.go (mo_icmp _ _), ?_⟩
  refine List.forall_mem_cons.mpr ⟨pm_MO.go (mo_iload _ _), ?_⟩
  refine List.forall_mem_cons.mpr ⟨pm_MO.go (mo_if _ _), ?_⟩
  refine List.forall_mem_cons.mpr ⟨pm_MO.go (mo_aload _ _), ?_⟩
  refine List.forall_mem_cons.mpr ⟨pm_MO.go (mo_get _ _), ?_⟩
  refine List.forall_mem_cons.mpr ⟨pm_MO.go (mo_iload _ _), ?_⟩
  refine List.forall_mem_cons.mpr ⟨pm_MO.go (mo_iald), ?_⟩
  refine List.forall_mem_cons.mpr ⟨pm_MO.go (mo_c _ _), ?_⟩
  refine List.forall_mem_cons.mpr ⟨pm_MO.go (mo_icmp _ _), ?_⟩
  refine List.forall_mem_cons.mpr ⟨pm_MO.go (mo_aload _ _), ?_⟩
  refine List.forall_mem_cons.mpr ⟨pm_MO.go (mo_get _ _), ?_⟩
  refine List.forall_mem_cons.mpr ⟨pm_MO.go (mo_iload _ _), ?_⟩
  refine List.forall_mem_cons.mpr ⟨pm_MO.go (mo_iald), ?_⟩
  refine List.forall_mem_cons.mpr ⟨pm_MO.go (mo_c _ _), ?_⟩
  refine List.forall_mem_cons.mpr ⟨pm_MO.go (mo_icmp _ _), ?_⟩
  refine List.forall_mem_cons.mpr ⟨pm_MO.go (mo_aload _ _), ?_⟩
  refine List.forall_mem_cons.mpr ⟨pm_MO.go (mo_get _ _), ?_⟩
  refine List.forall_mem_cons.mpr ⟨pm_MO.go (mo_iload _ _), ?_⟩
  refine List.forall_mem_cons.mpr ⟨pm_MO.go (mo_iald), ?_⟩
  refine List.forall_mem_cons.mpr ⟨pm_MO.go (mo_c _ _), ?_⟩
  refine List.forall_mem_cons.mpr ⟨pm_MO.go (mo_c _ _), ?_⟩
  refine List.forall_mem_cons.mpr ⟨mo_call _ _, ?_⟩
  refine List.forall_mem_cons.mpr ⟨pm_MO.go (mo_if _ _), ?_⟩
  refine List.forall_mem_cons.mpr ⟨pm_MO.go (mo_aload _ _), ?_⟩
  refine List.forall_mem_cons.mpr ⟨pm_MO.go (mo_get _ _), ?_⟩
  refine List.forall_mem_cons.mpr ⟨pm_MO.go (mo_aload _ _), ?_⟩
  refine List.forall_mem_cons.mpr ⟨pm_MO.go (mo_get _ _), ?_⟩
  refine List.forall_mem_cons.mpr ⟨pm_MO.go (mo_iload _ _), ?_⟩
  refine List.forall_mem_cons.mpr ⟨pm_MO.go (mo_iald), ?_⟩
  refine List.forall_mem_cons.mpr ⟨pm_MO.go (mo_c _ _), ?_⟩
  refine List.forall_mem_cons.mpr ⟨pm_MO.go (mo_i2 _), ?_⟩
  refine List.forall_mem_cons.mpr ⟨pm_MO.go (mo_zald), ?_⟩
  refine List.forall_mem_cons.mpr ⟨pm_MO.go (mo_if _ _), ?_⟩
  refine List.forall_mem_cons.mpr ⟨pm_MO.go (mo_c _ _), ?_⟩
  refine List.forall_mem_cons.mpr ⟨pm_MO.go (mo_goto _), ?_⟩
  refine List.forall_mem_cons.mpr ⟨pm_MO.go (mo_c _ _), ?_⟩
  refine List.forall_mem_cons.mpr ⟨pm_MO.go (mo_istore _ _), ?_⟩
  refine List.forall_mem_cons.mpr ⟨pm_MO.go (mo_iinc _ _ _), ?_⟩
  refine List.forall_mem_cons.mpr ⟨pm_MO.go (mo_goto _), ?_⟩
  refine List.forall_mem_cons.mpr ⟨pm_MO.go (mo_iload _ _), ?_⟩
  refine List.forall_mem_cons.mpr ⟨pm_MO.fin fin_zret, ?_⟩
  exact fun _ h => absurd h List.not_mem_nil
theorem mo_Mo_isVarying : pm_MO M_Mo_isVarying.1 := pm_MO.look mo_Mo_isVarying_
set_option maxHeartbeats 4000000 in
theorem io_Mo_isVarying (hl9 : l.stackTraces = false) (hcx : pm_cx p s m args meth c y_Mo_isVarying prog_9_method_18_code 5 (Option.some Jvm.ClassFile.FieldType.boolean) w_Mo_isVarying) (hno : ∀ x ∈ c.exceptionTable.toList, False) (hF : pj_KF D aC z sa s) (hz : z ≤ s.heap.size ∧ n0 ≤ k0 ∧ (n0 = k0 → s.heap.size = z + n0)) (hf : 8 ≤ R.frames) (hlo : 256 ≤ R.locals) : ∀ q ∈ tb_Mo_isVarying, pm_IO p l e R s m args below meth c D pj_cl z b aC k0 s0 n0 pj_mi (pm_Eo below D pj_cl z b aC pj_xn args s k0 s0) q := by
  obtain ⟨hx, hb, -, hr, hlocks, hname, hown, hts⟩ := hcx
  have hG : ∀ w ∈ pj_G, w.before args s = true := fun w h => hts w (List.mem_cons_of_mem _ h)
  have hK := hF.1
  have hAO := hF.2.1
  have hSt := hF.2.2.2.2.1
  unfold tb_Mo_isVarying
  refine List.forall_mem_cons.mpr ⟨pm_IO.go (ps_iconst hx hb (n := (0)) (v := (0)) (by decide +kernel) (by decide +kernel)), ?_⟩
  refine List.forall_mem_cons.mpr ⟨pm_IO.go (ps_istore_n (kk := 3) hx hb rfl (by decide +kernel)), ?_⟩
  refine List.forall_mem_cons.mpr ⟨pm_IO.go (ps_iload_n (kk := 1) hx hb rfl (by decide +kernel)), ?_⟩
  refine List.forall_mem_cons.mpr ⟨pm_IO.go (ps_istore hx hb (by decide +kernel)), ?_⟩
  refine List.forall_mem_cons.mpr ⟨pm_IO.go (ps_iload hx hb (by decide +kernel)), ?_⟩
  refine List.forall_mem_cons.mpr ⟨pm_IO.go (ps_iload_n (kk := 2) hx hb rfl (by decide +kernel)), ?_⟩
  refine List.forall_mem_cons.mpr ⟨pm_IO.go (ps_icmp_ge hx hb (off := 78) (by decide +kernel) (by decide +kernel)), ?_⟩
  refine List.forall_mem_cons.mpr ⟨pm_IO.go (ps_iload_n (kk := 3) hx hb rfl (by decide +kernel)), ?_⟩
  refine List.forall_mem_cons.mpr ⟨pm_IO.go (ps_if_ne hx hb (off := 62) (by decide +kernel) (by decide +kernel)), ?_⟩
  refine List.forall_mem_cons.mpr ⟨pm_IO.go (ps_aload_n (kk := 0) hx hb rfl (by decide +kernel)), ?_⟩
  refine List.forall_mem_cons.mpr ⟨pm_IO.go (ps_get hx hb hG in_Mo hown hK (ci := 7) rfl 1 (by decide +kernel) (hG _ wi_806) (fun _ h9 => h9) (by decide +kernel)), ?_⟩
  refine List.forall_mem_cons.mpr ⟨pm_IO.go (ps_iload hx hb (by decide +kernel)), ?_⟩
  refine List.forall_mem_cons.mpr ⟨pm_IO.go (ps_iald hx hb hK 0 rfl (by decide +kernel)), ?_⟩
  refine List.forall_mem_cons.mpr ⟨pm_IO.go (ps_bipush hx hb (n := (110)) (v := (110)) (by decide +kernel) (by decide +kernel)), ?_⟩
  refine List.forall_mem_cons.mpr ⟨pm_IO.go (ps_icmp_eq hx hb (off := 50) (by decide +kernel) (by decide +kernel)), ?_⟩
  refine List.forall_mem_cons.mpr ⟨pm_IO.go (ps_aload_n (kk := 0) hx hb rfl (by decide +kernel)), ?_⟩
  refine List.forall_mem_cons.mpr ⟨pm_IO.go (ps_get hx hb hG in_Mo hown hK (ci := 7) rfl 1 (by decide +kernel) (hG _ wi_806) (fun _ h9 => h9) (by decide +kernel)), ?_⟩
  refine List.forall_mem_cons.mpr ⟨pm_IO.go (ps_iload hx hb (by decide +kernel)), ?_⟩
  refine List.forall_mem_cons.mpr ⟨pm_IO.go (ps_iald hx hb hK 0 rfl (by decide +kernel)), ?_⟩
  refine List.forall_mem_cons.mpr ⟨pm_IO.go (ps_bipush hx hb (n := (76)) (v := (76)) (by decide +kernel) (by decide +kernel)), ?_⟩
  refine List.forall_mem_cons.mpr ⟨pm_IO.go (ps_icmp_eq hx hb (off := 38) (by decide +kernel) (by decide +kernel)), ?_⟩
  refine List.forall_mem_cons.mpr ⟨pm_IO.go (ps_aload_n (kk := 0) hx hb rfl (by decide +kernel)), ?_⟩
  refine List.forall_mem_cons.mpr ⟨pm_IO.go (ps_get hx hb hG in_Mo hown hK (ci := 7) rfl 1 (by decide +kernel) (hG _ wi_806) (fun _ h9 => h9) (by decide +kernel)), ?_⟩
  refine List.forall_mem_cons.mpr ⟨pm_IO.go (ps_iload hx hb (by decide +kernel)), ?_⟩
  refine List.forall_mem_cons.mpr ⟨pm_IO.go (ps_iald hx hb hK 0 rfl (by decide +kernel)), ?_⟩
  refine List.forall_mem_cons.mpr ⟨pm_IO.go (ps_bipush hx hb (n := (97)) (v := (97)) (by decide +kernel) (by decide +kernel)), ?_⟩
  refine List.forall_mem_cons.mpr ⟨pm_IO.go (ps_bipush hx hb (n := (104)) (v := (104)) (by decide +kernel) (by decide +kernel)), ?_⟩
  refine List.forall_mem_cons.mpr ⟨pl_S hx hb hown (hG _ wi_944) (hG _ wi_945) (hG _ wi_8) (sg_Mo_beyond hG) (nd_Mo_beyond hG) (by decide +kernel) (n := 3) (by decide +kernel) (cw_Mo_beyond hG) mi_Mo_beyond (by decide +kernel), ?_⟩
  refine List.forall_mem_cons.mpr ⟨pm_IO.go (ps_if_ne hx hb (off := 25) (by decide +kernel) (by decide +kernel)), ?_⟩
  refine List.forall_mem_cons.mpr ⟨pm_IO.go (ps_aload_n (kk := 0) hx hb rfl (by decide +kernel)), ?_⟩
  refine List.forall_mem_cons.mpr ⟨pm_IO.go (ps_get hx hb hG in_Mo hown hK (ci := 7) rfl 8 (by decide +kernel) (hG _ wi_813) (fun _ h9 => h9) (by decide +kernel)), ?_⟩
  refine List.forall_mem_cons.mpr ⟨pm_IO.go (ps_aload_n (kk := 0) hx hb rfl (by decide +kernel)), ?_⟩
  refine List.forall_mem_cons.mpr ⟨pm_IO.go (ps_get hx hb hG in_Mo hown hK (ci := 7) rfl 1 (by decide +kernel) (hG _ wi_806) (fun _ h9 => h9) (by decide +kernel)), ?_⟩
  refine List.forall_mem_cons.mpr ⟨pm_IO.go (ps_iload hx hb (by decide +kernel)), ?_⟩
  refine List.forall_mem_cons.mpr ⟨pm_IO.go (ps_iald hx hb hK 0 rfl (by decide +kernel)), ?_⟩
  refine List.forall_mem_cons.mpr ⟨pm_IO.go (ps_bipush hx hb (n := (97)) (v := (97)) (by decide +kernel) (by decide +kernel)), ?_⟩
  refine List.forall_mem_cons.mpr ⟨pm_IO.go (ps_isub hx hb (by decide +kernel)), ?_⟩
  refine List.forall_mem_cons.mpr ⟨pm_IO.go (ps_zald hx hb hK 2 rfl (by decide +kernel)), ?_⟩
  refine List.forall_mem_cons.mpr ⟨pm_IO.go (ps_if_eq hx hb (off := 7) (by decide +kernel) (by decide +kernel)), ?_⟩
  refine List.forall_mem_cons.mpr ⟨pm_IO.go (ps_iconst hx hb (n := (1)) (v := (1)) (by decide +kernel) (by decide +kernel)), ?_⟩
  refine List.forall_mem_cons.mpr ⟨pm_IO.go (ps_goto hx hb (off := 4) (by decide +kernel) (by decide +kernel)), ?_⟩
  refine List.forall_mem_cons.mpr ⟨pm_IO.go (ps_iconst hx hb (n := (0)) (v := (0)) (by decide +kernel) (by decide +kernel)), ?_⟩
  refine List.forall_mem_cons.mpr ⟨pm_IO.go (ps_istore_n (kk := 3) hx hb rfl (by decide +kernel)), ?_⟩
  refine List.forall_mem_cons.mpr ⟨pm_IO.go (ps_iinc hx hb (n := (1)) (v := (1)) (by decide +kernel) (by decide +kernel)), ?_⟩
  refine List.forall_mem_cons.mpr ⟨pm_IO.go (ps_goto hx hb (off := -78) (by decide +kernel) (by decide +kernel)), ?_⟩
  refine List.forall_mem_cons.mpr ⟨pm_IO.go (ps_iload_n (kk := 3) hx hb rfl (by decide +kernel)), ?_⟩
  refine List.forall_mem_cons.mpr ⟨pm_IO.fin fin_zret (ps_zret hx hb hr hlocks (by decide +kernel)), ?_⟩
  exact fun _ h => absurd h List.not_mem_nil
theorem ok_Mo_isVarying (hl9 : l.stackTraces = false) : pm_Ok l (pj_KF D aC z sa) D pj_cl z b aC pj_xn pj_mi (pj_P xs L) 116 :=
  pm_okW (ret := (Option.some Jvm.ClassFile.FieldType.boolean)) rfl rfl mi_Mo_isVarying rfl mo_Mo_isVarying (fun p e R s m args below meth c k0 s0 n0 hcx hno hF hz hf hlo => pm_B.tbl rfl (io_Mo_isVarying hl9 hcx hno hF hz hf hlo) (fun pc x ls h H locs LS cells slots q ce rest hl hq hS hk hs hn hce hcv hcl => ⟨fun pc1 i hM => (nomatch (show (Sum.inr true : (Nat × Nat) ⊕ Bool) = .inl (pc1, i) from hM)), fun _ => pm_pass hno hcx.2.2.2.2.1 hq hS hk hs hce hcv hcl⟩))
theorem mo_Mo_place_ : ∀ q ∈ tb_Mo_place, pm_MO q.2 := by
  unfold tb_Mo_place
  refine List.forall_mem_cons.mpr ⟨pm_MO.go (mo_aload _ _), ?_⟩
  refine List.forall_mem_cons.mpr ⟨pm_MO.go (mo_c _ _), ?_⟩
  refine List.forall_mem_cons.mpr ⟨pm_MO.go (mo_put _ _ _), ?_⟩
  refine List.forall_mem_cons.mpr ⟨pm_MO.go (mo_aload _ _), ?_⟩
  refine List.forall_mem_cons.mpr ⟨pm_MO.go (mo_get _ _), ?_⟩
  refine List.forall_mem_cons.mpr ⟨pm_MO.fin fin_iret, ?_⟩
  exact fun _ h => absurd h List.not_mem_nil
theorem mo_Mo_place : pm_MO M_Mo_place.1 := pm_MO.look mo_Mo_place_
set_option maxHeartbeats 4000000 in
theorem io_Mo_place (hl9 : l.stackTraces = false) (hcx : pm_cx p s m args meth c y_Mo_place prog_9_method_21_code 1 (Option.some Jvm.ClassFile.FieldType.int) w_Mo_place) (hno : ∀ x ∈ c.exceptionTable.toList, False) (hF : pj_KF D aC z sa s) (hz : z ≤ s.heap.size ∧ n0 ≤ k0 ∧ (n0 = k0 → s.heap.size = z + n0)) (hf : 8 ≤ R.frames) (hlo : 256 ≤ R.locals) : ∀ q ∈ tb_Mo_place, pm_IO p l e R s m args below meth c D pj_cl z b aC k0 s0 n0 pj_mi (pm_Eo below D pj_cl z b aC pj_xn args s k0 s0) q := by
  obtain ⟨hx, hb, -, hr, hlocks, hname, hown, hts⟩ := hcx
  have hG : ∀ w ∈ pj_G, w.before args s = true := fun w h => hts w (List.mem_cons_of_mem _ h)
  have hK := hF.1
  have hAO := hF.2.1
  have hSt := hF.2.2.2.2.1
  unfold tb_Mo_place
  refine List.forall_mem_cons.mpr ⟨pm_IO.go (ps_aload_n (kk := 0) hx hb rfl (by decide +kernel)), ?_⟩
  refine List.forall_mem_cons.mpr ⟨pm_IO.go (ps_iconst hx hb (n := (0)) (v := (0)) (by decide +kernel) (by decide +kernel)), ?_⟩
  refine List.forall_mem_cons.mpr ⟨pm_IO.go (ps_put hx hb hG in_Mo ty_Mo tk_Mo nm_Mo hown hK (ci := 7) rfl 0 (by decide +kernel) (hG _ wi_805) (fun _ h9 => h9) rfl pm_fit_int (by decide +kernel)), ?_⟩
  refine List.forall_mem_cons.mpr ⟨pm_IO.go (ps_aload_n (kk := 0) hx hb rfl (by decide +kernel)), ?_⟩
  refine List.forall_mem_cons.mpr ⟨pm_IO.go (ps_get hx hb hG in_Mo hown hK (ci := 7) rfl 7 (by decide +kernel) (hG _ wi_812) (fun _ h9 => h9) (by decide +kernel)), ?_⟩
  refine List.forall_mem_cons.mpr ⟨pm_IO.fin fin_iret (ps_iret hx hb hr hlocks (by decide +kernel)), ?_⟩
  exact fun _ h => absurd h List.not_mem_nil
theorem ok_Mo_place (hl9 : l.stackTraces = false) : pm_Ok l (pj_KF D aC z sa) D pj_cl z b aC pj_xn pj_mi (pj_P xs L) 117 :=
  pm_okW (ret := (Option.some Jvm.ClassFile.FieldType.int)) rfl rfl mi_Mo_place rfl mo_Mo_place (fun p e R s m args below meth c k0 s0 n0 hcx hno hF hz hf hlo => pm_B.tbl rfl (io_Mo_place hl9 hcx hno hF hz hf hlo) (fun pc x ls h H locs LS cells slots q ce rest hl hq hS hk hs hn hce hcv hcl => ⟨fun pc1 i hM => (nomatch (show (Sum.inr true : (Nat × Nat) ⊕ Bool) = .inl (pc1, i) from hM)), fun _ => pm_pass hno hcx.2.2.2.2.1 hq hS hk hs hce hcv hcl⟩))
theorem mo_Mo_varies_ : ∀ q ∈ tb_Mo_varies, pm_MO q.2 := by
  unfold tb_Mo_varies
  refine List.forall_mem_cons.mpr ⟨pm_MO.go (mo_aload _ _), ?_⟩
  refine List.forall_mem_cons.mpr ⟨pm_MO.go (mo_aload _ _), ?_⟩
  refine List.forall_mem_cons.mpr ⟨pm_MO.go (mo_get _ _), ?_⟩
  refine List.forall_mem_cons.mpr ⟨pm_MO.go (mo_if _ _), ?_⟩
  refine List.forall_mem_cons.mpr ⟨pm_MO.go (mo_c _ _), ?_⟩
  refine List.forall_mem_cons.mpr ⟨pm_MO.go (mo_goto _), ?_⟩
  refine List.forall_mem_cons.mpr ⟨pm_MO.go (mo_c _ _), ?_⟩
  refine List.forall_mem_cons.mpr ⟨pm_MO.go (mo_aload _ _), ?_⟩
  refine List.forall_mem_cons.mpr ⟨pm_MO.go (mo_get _ _), ?_⟩
  refine List.forall_mem_cons.mpr ⟨pm_MO.go (mo_if _ _), ?_⟩
  refine List.forall_mem_cons.mpr ⟨pm_MO.go (mo_iload _ _), ?_⟩
  refine List.forall_mem_cons.mpr ⟨pm_MO.go (mo_c _ _), ?_⟩
  refine List.forall_mem_cons.mpr ⟨pm_MO.go (mo_c _ _), ?_⟩
  refine List.forall_mem_cons.mpr ⟨mo_call _ _, ?_⟩
  refine List.forall_mem_cons.mpr ⟨pm_MO.go (mo_if _ _), ?_⟩
  refine List.forall_mem_cons.mpr ⟨pm_MO.go (mo_c _ _), ?_⟩
  refine List.forall_mem_cons.mpr ⟨pm_MO.go (mo_goto _), ?_⟩
  refine List.forall_mem_cons.mpr ⟨pm_MO.go (mo_c _ _), ?_⟩
  refine List.forall_mem_cons.mpr ⟨pm_MO.go (mo_c _ _), ?_⟩
  refine List.forall_mem_cons.mpr ⟨mo_callv _ _ _, ?_⟩
  refine List.forall_mem_cons.mpr ⟨pm_MO.go (mo_if _ _), ?_⟩
  refine List.forall_mem_cons.mpr ⟨pm_MO.go (mo_aload _ _), ?_⟩
  refine List.forall_mem_cons.mpr ⟨pm_MO.go (mo_get _ _), ?_⟩
  refine List.forall_mem_cons.mpr ⟨pm_MO.go (mo_iload _ _), ?_⟩
  refine List.forall_mem_cons.mpr ⟨pm_MO.go (mo_zald), ?_⟩
  refine List.forall_mem_cons.mpr ⟨pm_MO.go (mo_if _ _), ?_⟩
  refine List.forall_mem_cons.mpr ⟨pm_MO.go (mo_c _ _), ?_⟩
  refine List.forall_mem_cons.mpr ⟨pm_MO.go (mo_goto _), ?_⟩
  refine List.forall_mem_cons.mpr ⟨pm_MO.go (mo_c _ _), ?_⟩
  refine List.forall_mem_cons.mpr ⟨pm_MO.fin fin_zret, ?_⟩
  exact fun _ h => absurd h List.not_mem_nil
theorem mo_Mo_varies : pm_MO M_Mo_varies.1 := pm_MO.look mo_Mo_varies_
set_option maxHeartbeats 4000000 in
theorem io_Mo_varies (hl9 : l.stackTraces = false) (hcx : pm_cx p s m args meth c y_Mo_varies prog_9_method_22_code 2 (Option.some Jvm.ClassFile.FieldType.boolean) w_Mo_varies) (hno : ∀ x ∈ c.exceptionTable.toList, False) (hF : pj_KF D aC z sa s) (hz : z ≤ s.heap.size ∧ n0 ≤ k0 ∧ (n0 = k0 → s.heap.size = z + n0)) (hf : 8 ≤ R.frames) (hlo : 256 ≤ R.locals) : ∀ q ∈ tb_Mo_varies, pm_IO p l e R s m args below meth c D pj_cl z b aC k0 s0 n0 pj_mi (pm_Eo below D pj_cl z b aC pj_xn args s k0 s0) q := by
  obtain ⟨hx, hb, -, hr, hlocks, hname, hown, hts⟩ := hcx
  have hG : ∀ w ∈ pj_G, w.before args s = true := fun w h => hts w (List.mem_cons_of_mem _ h)
  have hK := hF.1
  have hAO := hF.2.1
  have hSt := hF.2.2.2.2.1
  unfold tb_Mo_varies
  refine List.forall_mem_cons.mpr ⟨pm_IO.go (ps_aload_n (kk := 0) hx hb rfl (by decide +kernel)), ?_⟩
  refine List.forall_mem_cons.mpr ⟨pm_IO.go (ps_aload_n (kk := 0) hx hb rfl (by decide +kernel)), ?_⟩
  refine List.forall_mem_cons.mpr ⟨pm_IO.go (ps_get hx hb hG in_Mo hown hK (ci := 7) rfl 5 (by decide +kernel) (hG _ wi_810) (fun _ h9 => h9) (by decide +kernel)), ?_⟩
  refine List.forall_mem_cons.mpr ⟨pm_IO.go (ps_if_ne hx hb (off := 7) (by decide +kernel) (by decide +kernel)), ?_⟩
  refine List.forall_mem_cons.mpr ⟨pm_IO.go (ps_iconst hx hb (n := (1)) (v := (1)) (by decide +kernel) (by decide +kernel)), ?_⟩
  refine List.forall_mem_cons.mpr ⟨pm_IO.go (ps_goto hx hb (off := 4) (by decide +kernel) (by decide +kernel)), ?_⟩
  refine List.forall_mem_cons.mpr ⟨pm_IO.go (ps_iconst hx hb (n := (0)) (v := (0)) (by decide +kernel) (by decide +kernel)), ?_⟩
  refine List.forall_mem_cons.mpr ⟨pm_IO.go (ps_aload_n (kk := 0) hx hb rfl (by decide +kernel)), ?_⟩
  refine List.forall_mem_cons.mpr ⟨pm_IO.go (ps_get hx hb hG in_Mo hown hK (ci := 7) rfl 5 (by decide +kernel) (hG _ wi_810) (fun _ h9 => h9) (by decide +kernel)), ?_⟩
  refine List.forall_mem_cons.mpr ⟨pm_IO.go (ps_if_eq hx hb (off := 17) (by decide +kernel) (by decide +kernel)), ?_⟩
  refine List.forall_mem_cons.mpr ⟨pm_IO.go (ps_iload_n (kk := 1) hx hb rfl (by decide +kernel)), ?_⟩
  refine List.forall_mem_cons.mpr ⟨pm_IO.go (ps_iconst hx hb (n := (0)) (v := (0)) (by decide +kernel) (by decide +kernel)), ?_⟩
  refine List.forall_mem_cons.mpr ⟨pm_IO.go (ps_bipush hx hb (n := (7)) (v := (7)) (by decide +kernel) (by decide +kernel)), ?_⟩
  refine List.forall_mem_cons.mpr ⟨pl_S hx hb hown (hG _ wi_944) (hG _ wi_945) (hG _ wi_8) (sg_Mo_beyond hG) (nd_Mo_beyond hG) (by decide +kernel) (n := 3) (by decide +kernel) (cw_Mo_beyond hG) mi_Mo_beyond (by decide +kernel), ?_⟩
  refine List.forall_mem_cons.mpr ⟨pm_IO.go (ps_if_eq hx hb (off := 7) (by decide +kernel) (by decide +kernel)), ?_⟩
  refine List.forall_mem_cons.mpr ⟨pm_IO.go (ps_iconst hx hb (n := (1)) (v := (1)) (by decide +kernel) (by decide +kernel)), ?_⟩
  refine List.forall_mem_cons.mpr ⟨pm_IO.go (ps_goto hx hb (off := 4) (by decide +kernel) (by decide +kernel)), ?_⟩
  refine List.forall_mem_cons.mpr ⟨pm_IO.go (ps_iconst hx hb (n := (0)) (v := (0)) (by decide +kernel) (by decide +kernel)), ?_⟩
  refine List.forall_mem_cons.mpr ⟨pm_IO.go (ps_iconst hx hb (n := (0)) (v := (0)) (by decide +kernel) (by decide +kernel)), ?_⟩
  refine List.forall_mem_cons.mpr ⟨pl_V hx hb hown (hG _ wi_948) (hG _ wi_950) (hG _ ws_Mo_throwing) (sg_Mo_throwing hG) (by decide +kernel) hK (ci := 7) rfl rfl (n := 3) (by decide +kernel) (cw_Mo_throwing hG) mi_Mo_throwing (by decide +kernel), ?_⟩
  refine List.forall_mem_cons.mpr ⟨pm_IO.go (ps_if_ne hx hb (off := 16) (by decide +kernel) (by decide +kernel)), ?_⟩
  refine List.forall_mem_cons.mpr ⟨pm_IO.go (ps_aload_n (kk := 0) hx hb rfl (by decide +kernel)), ?_⟩
  refine List.forall_mem_cons.mpr ⟨pm_IO.go (ps_get hx hb hG in_Mo hown hK (ci := 7) rfl 8 (by decide +kernel) (hG _ wi_813) (fun _ h9 => h9) (by decide +kernel)), ?_⟩
  refine List.forall_mem_cons.mpr ⟨pm_IO.go (ps_iload_n (kk := 1) hx hb rfl (by decide +kernel)), ?_⟩
  refine List.forall_mem_cons.mpr ⟨pm_IO.go (ps_zald hx hb hK 2 rfl (by decide +kernel)), ?_⟩
  refine List.forall_mem_cons.mpr ⟨pm_IO.go (ps_if_eq hx hb (off := 7) (by decide +kernel) (by decide +kernel)), ?_⟩
  refine List.forall_mem_cons.mpr ⟨pm_IO.go (ps_iconst hx hb (n := (1)) (v := (1)) (by decide +kernel) (by decide +kernel)), ?_⟩
  refine List.forall_mem_cons.mpr ⟨pm_IO.go (ps_goto hx hb (off := 4) (by decide +kernel) (by decide +kernel)), ?_⟩
  refine List.forall_mem_cons.mpr ⟨pm_IO.go (ps_iconst hx hb (n := (0)) (v := (0)) (by decide +kernel) (by decide +kernel)), ?_⟩
  refine List.forall_mem_cons.mpr ⟨pm_IO.fin fin_zret (ps_zret hx hb hr hlocks (by decide +kernel)), ?_⟩
  exact fun _ h => absurd h List.not_mem_nil
theorem ok_Mo_varies (hl9 : l.stackTraces = false) : pm_Ok l (pj_KF D aC z sa) D pj_cl z b aC pj_xn pj_mi (pj_P xs L) 118 :=
  pm_okW (ret := (Option.some Jvm.ClassFile.FieldType.boolean)) rfl rfl mi_Mo_varies rfl mo_Mo_varies (fun p e R s m args below meth c k0 s0 n0 hcx hno hF hz hf hlo => pm_B.tbl rfl (io_Mo_varies hl9 hcx hno hF hz hf hlo) (fun pc x ls h H locs LS cells slots q ce rest hl hq hS hk hs hn hce hcv hcl => ⟨fun pc1 i hM => (nomatch (show (Sum.inr true : (Nat × Nat) ⊕ Bool) = .inl (pc1, i) from hM)), fun _ => pm_pass hno hcx.2.2.2.2.1 hq hS hk hs hce hcv hcl⟩))
theorem mo_Mo_input_ : ∀ q ∈ tb_Mo_input, pm_MO q.2 := by
  unfold tb_Mo_input
  refine List.forall_mem_cons.mpr ⟨pm_MO.go (mo_iload _ _), ?_⟩
  refine List.forall_mem_cons.mpr ⟨pm_MO.go (mo_c _ _), ?_⟩
  refine List.forall_mem_cons.mpr ⟨pm_MO.go (mo_c _ _), ?_⟩
  refine List.forall_mem_cons.mpr ⟨mo_call _ _, ?_⟩
  refine List.forall_mem_cons.mpr ⟨pm_MO.go (mo_istore _ _), ?_⟩
  refine List.forall_mem_cons.mpr ⟨pm_MO.go (mo_aload _ _), ?_⟩
  refine List.forall_mem_cons.mpr ⟨pm_MO.go (mo_iload _ _), ?_⟩
  refine List.forall_mem_cons.mpr ⟨pm_MO.go (mo_iload _ _), ?_⟩
  refine List.forall_mem_cons.mpr ⟨pm_MO.go (mo_if _ _), ?_⟩
  refine List.forall_mem_cons.mpr ⟨pm_MO.go (mo_aload _ _), ?_⟩
  refine List.forall_mem_cons.mpr ⟨pm_MO.go (mo_get _ _), ?_⟩
  refine List.forall_mem_cons.mpr ⟨pm_MO.go (mo_if _ _), ?_⟩
  refine List.forall_mem_cons.mpr ⟨pm_MO.go (mo_c _ _), ?_⟩
  refine List.forall_mem_cons.mpr ⟨pm_MO.go (mo_goto _), ?_⟩
  refine List.forall_mem_cons.mpr ⟨pm_MO.go (mo_c _ _), ?_⟩
  refine List.forall_mem_cons.mpr ⟨pm_MO.go (mo_c _ _), ?_⟩
  refine List.forall_mem_cons.mpr ⟨mo_callv _ _ _, ?_⟩
  refine List.forall_mem_cons.mpr ⟨pm_MO.go (mo_if _ _), ?_⟩
  refine List.forall_mem_cons.mpr ⟨pm_MO.fin fin_vret, ?_⟩
  refine List.forall_mem_cons.mpr ⟨pm_MO.go (mo_aload _ _), ?_⟩
  refine List.forall_mem_cons.mpr ⟨pm_MO.go (mo_get _ _), ?_⟩
  refine List.forall_mem_cons.mpr ⟨pm_MO.go (mo_iload _ _), ?_⟩
  refine List.forall_mem_cons.mpr ⟨pm_MO.go (mo_iload _ _), ?_⟩
  refine List.forall_mem_cons.mpr ⟨pm_MO.go (mo_iast), ?_⟩
  refine List.forall_mem_cons.mpr ⟨pm_MO.fin fin_vret, ?_⟩
  exact fun _ h => absurd h List.not_mem_nil
theorem mo_Mo_input : pm_MO M_Mo_input.1 := pm_MO.look mo_Mo_input_
set_option maxHeartbeats 4000000 in
theorem io_Mo_input (hl9 : l.stackTraces = false) (hcx : pm_cx p s m args meth c y_Mo_input prog_9_method_23_code 4 (Option.none : Option Jvm.ClassFile.FieldType) w_Mo_input) (hno : ∀ x ∈ c.exceptionTable.toList, False) (hF : pj_KF D aC z sa s) (hz : z ≤ s.heap.size ∧ n0 ≤ k0 ∧ (n0 = k0 → s.heap.size = z + n0)) (hf : 8 ≤ R.frames) (hlo : 256 ≤ R.locals) : ∀ q ∈ tb_Mo_input, pm_IO p l e R s m args below meth c D pj_cl z b aC k0 s0 n0 pj_mi (pm_Eo below D pj_cl z b aC pj_xn args s k0 s0) q := by
  obtain ⟨hx, hb, -, hr, hlocks, hname, hown, hts⟩ := hcx
  have hG : ∀ w ∈ pj_G, w.before args s = true := fun w h => hts w (List.mem_cons_of_mem _ h)
  have hK := hF.1
  have hAO := hF.2.1
  have hSt := hF.2.2.2.2.1
  unfold tb_Mo_input
  refine List.forall_mem_cons.mpr ⟨pm_IO.go (ps_iload_n (kk := 1) hx hb rfl (by decide +kernel)), ?_⟩
  refine List.forall_mem_cons.mpr ⟨pm_IO.go (ps_iconst hx hb (n := (0)) (v := (0)) (by decide +kernel) (by decide +kernel)), ?_⟩
  refine List.forall_mem_cons.mpr ⟨pm_IO.go (ps_bipush hx hb (n := (15)) (v := (15)) (by decide +kernel) (by decide +kernel)), ?_⟩
  refine List.forall_mem_cons.mpr ⟨pl_S hx hb hown (hG _ wi_944) (hG _ wi_945) (hG _ wi_8) (sg_Mo_beyond hG) (nd_Mo_beyond hG) (by decide +kernel) (n := 3) (by decide +kernel) (cw_Mo_beyond hG) mi_Mo_beyond (by decide +kernel), ?_⟩
  refine List.forall_mem_cons.mpr ⟨pm_IO.go (ps_istore_n (kk := 3) hx hb rfl (by decide +kernel)), ?_⟩
  refine List.forall_mem_cons.mpr ⟨pm_IO.go (ps_aload_n (kk := 0) hx hb rfl (by decide +kernel)), ?_⟩
  refine List.forall_mem_cons.mpr ⟨pm_IO.go (ps_iload_n (kk := 3) hx hb rfl (by decide +kernel)), ?_⟩
  refine List.forall_mem_cons.mpr ⟨pm_IO.go (ps_iload_n (kk := 3) hx hb rfl (by decide +kernel)), ?_⟩
  refine List.forall_mem_cons.mpr ⟨pm_IO.go (ps_if_ne hx hb (off := 14) (by decide +kernel) (by decide +kernel)), ?_⟩
  refine List.forall_mem_cons.mpr ⟨pm_IO.go (ps_aload_n (kk := 0) hx hb rfl (by decide +kernel)), ?_⟩
  refine List.forall_mem_cons.mpr ⟨pm_IO.go (ps_get hx hb hG in_Mo hown hK (ci := 7) rfl 26 (by decide +kernel) (hG _ wi_831) (fun _ h9 => h9) (by decide +kernel)), ?_⟩
  refine List.forall_mem_cons.mpr ⟨pm_IO.go (ps_if_eq hx hb (off := 7) (by decide +kernel) (by decide +kernel)), ?_⟩
  refine List.forall_mem_cons.mpr ⟨pm_IO.go (ps_iconst hx hb (n := (1)) (v := (1)) (by decide +kernel) (by decide +kernel)), ?_⟩
  refine List.forall_mem_cons.mpr ⟨pm_IO.go (ps_goto hx hb (off := 4) (by decide +kernel) (by decide +kernel)), ?_⟩
  refine List.forall_mem_cons.mpr ⟨pm_IO.go (ps_iconst hx hb (n := (0)) (v := (0)) (by decide +kernel) (by decide +kernel)), ?_⟩
  refine List.forall_mem_cons.mpr ⟨pm_IO.go (ps_iconst hx hb (n := (0)) (v := (0)) (by decide +kernel) (by decide +kernel)), ?_⟩
  refine List.forall_mem_cons.mpr ⟨pl_V hx hb hown (hG _ wi_948) (hG _ wi_950) (hG _ ws_Mo_throwing) (sg_Mo_throwing hG) (by decide +kernel) hK (ci := 7) rfl rfl (n := 3) (by decide +kernel) (cw_Mo_throwing hG) mi_Mo_throwing (by decide +kernel), ?_⟩
  refine List.forall_mem_cons.mpr ⟨pm_IO.go (ps_if_eq hx hb (off := 4) (by decide +kernel) (by decide +kernel)), ?_⟩
  refine List.forall_mem_cons.mpr ⟨pm_IO.fin fin_vret (ps_vret hx hb hr hlocks (by decide +kernel)), ?_⟩
  refine List.forall_mem_cons.mpr ⟨pm_IO.go (ps_aload_n (kk := 0) hx hb rfl (by decide +kernel)), ?_⟩
  refine List.forall_mem_cons.mpr ⟨pm_IO.go (ps_get hx hb hG in_Mo hown hK (ci := 7) rfl 11 (by decide +kernel) (hG _ wi_816) (fun _ h9 => h9) (by decide +kernel)), ?_⟩
  refine List.forall_mem_cons.mpr ⟨pm_IO.go (ps_iload_n (kk := 1) hx hb rfl (by decide +kernel)), ?_⟩
  refine List.forall_mem_cons.mpr ⟨pm_IO.go (ps_iload_n (kk := 2) hx hb rfl (by decide +kernel)), ?_⟩
  refine List.forall_mem_cons.mpr ⟨pm_IO.go (ps_iast hx hb hK 0 rfl (by decide +kernel)), ?_⟩
  refine List.forall_mem_cons.mpr ⟨pm_IO.fin fin_vret (ps_vret hx hb hr hlocks (by decide +kernel)), ?_⟩
  exact fun _ h => absurd h List.not_mem_nil
theorem ok_Mo_input (hl9 : l.stackTraces = false) : pm_Ok l (pj_KF D aC z sa) D pj_cl z b aC pj_xn pj_mi (pj_P xs L) 119 :=
  pm_okW (ret := (Option.none : Option Jvm.ClassFile.FieldType)) rfl rfl mi_Mo_input rfl mo_Mo_input (fun p e R s m args below meth c k0 s0 n0 hcx hno hF hz hf hlo => pm_B.tbl rfl (io_Mo_input hl9 hcx hno hF hz hf hlo) (fun pc x ls h H locs LS cells slots q ce rest hl hq hS hk hs hn hce hcv hcl => ⟨fun pc1 i hM => (nomatch (show (Sum.inr true : (Nat × Nat) ⊕ Bool) = .inl (pc1, i) from hM)), fun _ => pm_pass hno hcx.2.2.2.2.1 hq hS hk hs hce hcv hcl⟩))
theorem mo_Mo_lanes_ : ∀ q ∈ tb_Mo_lanes, pm_MO q.2 := by
  unfold tb_Mo_lanes
  refine List.forall_mem_cons.mpr ⟨pm_MO.go (mo_iload _ _), ?_⟩
  refine List.forall_mem_cons.mpr ⟨pm_MO.go (mo_c _ _), ?_⟩
  refine List.forall_mem_cons.mpr ⟨pm_MO.go (mo_c _ _), ?_⟩
  refine List.forall_mem_cons.mpr ⟨mo_call _ _, ?_⟩
  refine List.forall_mem_cons.mpr ⟨pm_MO.go (mo_istore _ _), ?_⟩
  refine List.forall_mem_cons.mpr ⟨pm_MO.go (mo_aload _ _), ?_⟩
  refine List.forall_mem_cons.mpr ⟨pm_MO.go (mo_iload _ _), ?_⟩
  refine List.forall_mem_cons.mpr ⟨pm_MO.go (mo_iload _ _), ?_⟩
  refine List.forall_mem_cons.mpr ⟨pm_MO.go (mo_if _ _), ?_⟩
  refine List.forall_mem_cons.mpr ⟨pm_MO.go (mo_aload _ _), ?_⟩
  refine List.forall_mem_cons.mpr ⟨pm_MO.go (mo_get _ _), ?_⟩
  refine List.forall_mem_cons.mpr ⟨pm_MO.go (mo_if _ _), ?_⟩
  refine List.forall_mem_cons.mpr ⟨pm_MO.go (mo_c _ _), ?_⟩
  refine List.forall_mem_cons.mpr ⟨pm_MO.go (mo_goto _), ?_⟩
  refine List.forall_mem_cons.mpr ⟨pm_MO.go (mo_c _ _), ?_⟩
  refine List.forall_mem_cons.mpr ⟨pm_MO.go (mo_c _ _), ?_⟩
  refine List.forall_mem_cons.mpr ⟨mo_callv _ _ _, ?_⟩
  refine List.forall_mem_cons.mpr ⟨pm_MO.go (mo_if _ _), ?_⟩
  refine List.forall_mem_cons.mpr ⟨pm_MO.fin fin_vret, ?_⟩
  refine List.forall_mem_cons.mpr ⟨pm_MO.go (mo_aload _ _), ?_⟩
  refine List.forall_mem_cons.mpr ⟨pm_MO.go (mo_iload _ _), ?_⟩
  refine List.forall_mem_cons.mpr ⟨pm_MO.go (mo_put _ _ _), ?_⟩
  refine List.forall_mem_cons.mpr ⟨pm_MO.fin fin_vret, ?_⟩
  exact fun _ h => absurd h List.not_mem_nil
theorem mo_Mo_lanes : pm_MO M_Mo_lanes.1 := pm_MO.look mo_Mo_lanes_
set_option maxHeartbeats 4000000 in
theorem io_Mo_lanes (hl9 : l.stackTraces = false) (hcx : pm_cx p s m args meth c y_Mo_lanes prog_9_method_24_code 3 (Option.none : Option Jvm.ClassFile.FieldType) w_Mo_lanes) (hno : ∀ x ∈ c.exceptionTable.toList, False) (hF : pj_KF D aC z sa s) (hz : z ≤ s.heap.size ∧ n0 ≤ k0 ∧ (n0 = k0 → s.heap.size = z + n0)) (hf : 8 ≤ R.frames) (hlo : 256 ≤ R.locals) : ∀ q ∈ tb_Mo_lanes, pm_IO p l e R s m args below meth c D pj_cl z b aC k0 s0 n0 pj_mi (pm_Eo below D pj_cl z b aC pj_xn args s k0 s0) q := by
  obtain ⟨hx, hb, -, hr, hlocks, hname, hown, hts⟩ := hcx
  have hG : ∀ w ∈ pj_G, w.before args s = true := fun w h => hts w (List.mem_cons_of_mem _ h)
  have hK := hF.1
  have hAO := hF.2.1
  have hSt := hF.2.2.2.2.1
  unfold tb_Mo_lanes
  refine List.forall_mem_cons.mpr ⟨pm_IO.go (ps_iload_n (kk := 1) hx hb rfl (by decide +kernel)), ?_⟩
  refine List.forall_mem_cons.mpr ⟨pm_IO.go (ps_iconst hx hb (n := (1)) (v := (1)) (by decide +kernel) (by decide +kernel)), ?_⟩
  refine List.forall_mem_cons.mpr ⟨pm_IO.go (ps_bipush hx hb (n := (8)) (v := (8)) (by decide +kernel) (by decide +kernel)), ?_⟩
  refine List.forall_mem_cons.mpr ⟨pl_S hx hb hown (hG _ wi_944) (hG _ wi_945) (hG _ wi_8) (sg_Mo_beyond hG) (nd_Mo_beyond hG) (by decide +kernel) (n := 3) (by decide +kernel) (cw_Mo_beyond hG) mi_Mo_beyond (by decide +kernel), ?_⟩
  refine List.forall_mem_cons.mpr ⟨pm_IO.go (ps_istore_n (kk := 2) hx hb rfl (by decide +kernel)), ?_⟩
  refine List.forall_mem_cons.mpr ⟨pm_IO.go (ps_aload_n (kk := 0) hx hb rfl (by decide +kernel)), ?_⟩
  refine List.forall_mem_cons.mpr ⟨pm_IO.go (ps_iload_n (kk := 2) hx hb rfl (by decide +kernel)), ?_⟩
  refine List.forall_mem_cons.mpr ⟨pm_IO.go (ps_iload_n (kk := 2) hx hb rfl (by decide +kernel)), ?_⟩
  refine List.forall_mem_cons.mpr ⟨pm_IO.go (ps_if_ne hx hb (off := 14) (by decide +kernel) (by decide +kernel)), ?_⟩
  refine List.forall_mem_cons.mpr ⟨pm_IO.go (ps_aload_n (kk := 0) hx hb rfl (by decide +kernel)), ?_⟩
  refine List.forall_mem_cons.mpr ⟨pm_IO.go (ps_get hx hb hG in_Mo hown hK (ci := 7) rfl 26 (by decide +kernel) (hG _ wi_831) (fun _ h9 => h9) (by decide +kernel)), ?_⟩
  refine List.forall_mem_cons.mpr ⟨pm_IO.go (ps_if_eq hx hb (off := 7) (by decide +kernel) (by decide +kernel)), ?_⟩
  refine List.forall_mem_cons.mpr ⟨pm_IO.go (ps_iconst hx hb (n := (1)) (v := (1)) (by decide +kernel) (by decide +kernel)), ?_⟩
  refine List.forall_mem_cons.mpr ⟨pm_IO.go (ps_goto hx hb (off := 4) (by decide +kernel) (by decide +kernel)), ?_⟩
  refine List.forall_mem_cons.mpr ⟨pm_IO.go (ps_iconst hx hb (n := (0)) (v := (0)) (by decide +kernel) (by decide +kernel)), ?_⟩
  refine List.forall_mem_cons.mpr ⟨pm_IO.go (ps_iconst hx hb (n := (0)) (v := (0)) (by decide +kernel) (by decide +kernel)), ?_⟩
  refine List.forall_mem_cons.mpr ⟨pl_V hx hb hown (hG _ wi_948) (hG _ wi_950) (hG _ ws_Mo_throwing) (sg_Mo_throwing hG) (by decide +kernel) hK (ci := 7) rfl rfl (n := 3) (by decide +kernel) (cw_Mo_throwing hG) mi_Mo_throwing (by decide +kernel), ?_⟩
  refine List.forall_mem_cons.mpr ⟨pm_IO.go (ps_if_eq hx hb (off := 4) (by decide +kernel) (by decide +kernel)), ?_⟩
  refine List.forall_mem_cons.mpr ⟨pm_IO.fin fin_vret (ps_vret hx hb hr hlocks (by decide +kernel)), ?_⟩
  refine List.forall_mem_cons.mpr ⟨pm_IO.go (ps_aload_n (kk := 0) hx hb rfl (by decide +kernel)), ?_⟩
  refine List.forall_mem_cons.mpr ⟨pm_IO.go (ps_iload_n (kk := 1) hx hb rfl (by decide +kernel)), ?_⟩
  refine List.forall_mem_cons.mpr ⟨pm_IO.go (ps_put hx hb hG in_Mo ty_Mo tk_Mo nm_Mo hown hK (ci := 7) rfl 12 (by decide +kernel) (hG _ wi_817) (fun _ h9 => h9) rfl pm_fit_int (by decide +kernel)), ?_⟩
  refine List.forall_mem_cons.mpr ⟨pm_IO.fin fin_vret (ps_vret hx hb hr hlocks (by decide +kernel)), ?_⟩
  exact fun _ h => absurd h List.not_mem_nil
theorem ok_Mo_lanes (hl9 : l.stackTraces = false) : pm_Ok l (pj_KF D aC z sa) D pj_cl z b aC pj_xn pj_mi (pj_P xs L) 120 :=
  pm_okW (ret := (Option.none : Option Jvm.ClassFile.FieldType)) rfl rfl mi_Mo_lanes rfl mo_Mo_lanes (fun p e R s m args below meth c k0 s0 n0 hcx hno hF hz hf hlo => pm_B.tbl rfl (io_Mo_lanes hl9 hcx hno hF hz hf hlo) (fun pc x ls h H locs LS cells slots q ce rest hl hq hS hk hs hn hce hcv hcl => ⟨fun pc1 i hM => (nomatch (show (Sum.inr true : (Nat × Nat) ⊕ Bool) = .inl (pc1, i) from hM)), fun _ => pm_pass hno hcx.2.2.2.2.1 hq hS hk hs hce hcv hcl⟩))
theorem mo_Mo_start_ : ∀ q ∈ tb_Mo_start, pm_MO q.2 := by
  unfold tb_Mo_start
  refine List.forall_mem_cons.mpr ⟨pm_MO.go (mo_aload _ _), ?_⟩
  refine List.forall_mem_cons.mpr ⟨pm_MO.go (mo_aload _ _), ?_⟩
  refine List.forall_mem_cons.mpr ⟨pm_MO.go (mo_get _ _), ?_⟩
  refine List.forall_mem_cons.mpr ⟨pm_MO.go (mo_if _ _), ?_⟩
  refine List.forall_mem_cons.mpr ⟨pm_MO.go (mo_c _ _), ?_⟩
  refine List.forall_mem_cons.mpr ⟨pm_MO.go (mo_goto _), ?_⟩
  refine List.forall_mem_cons.mpr ⟨pm_MO.go (mo_c _ _), ?_⟩
  refine List.forall_mem_cons.mpr ⟨pm_MO.go (mo_c _ _), ?_⟩
  refine List.forall_mem_cons.mpr ⟨pm_MO.go (mo_c _ _), ?_⟩
  refine List.forall_mem_cons.mpr ⟨mo_callv _ _ _, ?_⟩
  refine List.forall_mem_cons.mpr ⟨pm_MO.go (mo_if _ _), ?_⟩
  refine List.forall_mem_cons.mpr ⟨pm_MO.fin fin_vret, ?_⟩
  refine List.forall_mem_cons.mpr ⟨pm_MO.go (mo_aload _ _), ?_⟩
  refine List.forall_mem_cons.mpr ⟨pm_MO.go (mo_c _ _), ?_⟩
  refine List.forall_mem_cons.mpr ⟨pm_MO.go (mo_put _ _ _), ?_⟩
  refine List.forall_mem_cons.mpr ⟨pm_MO.go (mo_aload _ _), ?_⟩
  refine List.forall_mem_cons.mpr ⟨pm_MO.go (mo_aload _ _), ?_⟩
  refine List.forall_mem_cons.mpr ⟨pm_MO.go (mo_get _ _), ?_⟩
  refine List.forall_mem_cons.mpr ⟨pm_MO.go (mo_put _ _ _), ?_⟩
  refine List.forall_mem_cons.mpr ⟨pm_MO.go (mo_aload _ _), ?_⟩
  refine List.forall_mem_cons.mpr ⟨pm_MO.go (mo_c _ _), ?_⟩
  refine List.forall_mem_cons.mpr ⟨pm_MO.go (mo_put _ _ _), ?_⟩
  refine List.forall_mem_cons.mpr ⟨pm_MO.go (mo_aload _ _), ?_⟩
  refine List.forall_mem_cons.mpr ⟨mo_callv _ _ _, ?_⟩
  refine List.forall_mem_cons.mpr ⟨pm_MO.go (mo_pop), ?_⟩
  refine List.forall_mem_cons.mpr ⟨pm_MO.fin fin_vret, ?_⟩
  exact fun _ h => absurd h List.not_mem_nil
theorem mo_Mo_start : pm_MO M_Mo_start.1 := pm_MO.look mo_Mo_start_
set_option maxHeartbeats 4000000 in
theorem io_Mo_start (hl9 : l.stackTraces = false) (hcx : pm_cx p s m args meth c y_Mo_start prog_9_method_43_code 1 (Option.none : Option Jvm.ClassFile.FieldType) w_Mo_start) (hno : ∀ x ∈ c.exceptionTable.toList, False) (hF : pj_KF D aC z sa s) (hz : z ≤ s.heap.size ∧ n0 ≤ k0 ∧ (n0 = k0 → s.heap.size = z + n0)) (hf : 8 ≤ R.frames) (hlo : 256 ≤ R.locals) : ∀ q ∈ tb_Mo_start, pm_IO p l e R s m args below meth c D pj_cl z b aC k0 s0 n0 pj_mi (pm_Eo below D pj_cl z b aC pj_xn args s k0 s0) q := by
  obtain ⟨hx, hb, -, hr, hlocks, hname, hown, hts⟩ := hcx
  have hG : ∀ w ∈ pj_G, w.before args s = true := fun w h => hts w (List.mem_cons_of_mem _ h)
  have hK := hF.1
  have hAO := hF.2.1
  have hSt := hF.2.2.2.2.1
  unfold tb_Mo_start
  refine List.forall_mem_cons.mpr ⟨pm_IO.go (ps_aload_n (kk := 0) hx hb rfl (by decide +kernel)), ?_⟩
  refine List.forall_mem_cons.mpr ⟨pm_IO.go (ps_aload_n (kk := 0) hx hb rfl (by decide +kernel)), ?_⟩
  refine List.forall_mem_cons.mpr ⟨pm_IO.go (ps_get hx hb hG in_Mo hown hK (ci := 7) rfl 5 (by decide +kernel) (hG _ wi_810) (fun _ h9 => h9) (by decide +kernel)), ?_⟩
  refine List.forall_mem_cons.mpr ⟨pm_IO.go (ps_if_ne hx hb (off := 7) (by decide +kernel) (by decide +kernel)), ?_⟩
  refine List.forall_mem_cons.mpr ⟨pm_IO.go (ps_iconst hx hb (n := (1)) (v := (1)) (by decide +kernel) (by decide +kernel)), ?_⟩
  refine List.forall_mem_cons.mpr ⟨pm_IO.go (ps_goto hx hb (off := 4) (by decide +kernel) (by decide +kernel)), ?_⟩
  refine List.forall_mem_cons.mpr ⟨pm_IO.go (ps_iconst hx hb (n := (0)) (v := (0)) (by decide +kernel) (by decide +kernel)), ?_⟩
  refine List.forall_mem_cons.mpr ⟨pm_IO.go (ps_iconst hx hb (n := (0)) (v := (0)) (by decide +kernel) (by decide +kernel)), ?_⟩
  refine List.forall_mem_cons.mpr ⟨pm_IO.go (ps_iconst hx hb (n := (0)) (v := (0)) (by decide +kernel) (by decide +kernel)), ?_⟩
  refine List.forall_mem_cons.mpr ⟨pl_V hx hb hown (hG _ wi_948) (hG _ wi_950) (hG _ ws_Mo_throwing) (sg_Mo_throwing hG) (by decide +kernel) hK (ci := 7) rfl rfl (n := 3) (by decide +kernel) (cw_Mo_throwing hG) mi_Mo_throwing (by decide +kernel), ?_⟩
  refine List.forall_mem_cons.mpr ⟨pm_IO.go (ps_if_eq hx hb (off := 4) (by decide +kernel) (by decide +kernel)), ?_⟩
  refine List.forall_mem_cons.mpr ⟨pm_IO.fin fin_vret (ps_vret hx hb hr hlocks (by decide +kernel)), ?_⟩
  refine List.forall_mem_cons.mpr ⟨pm_IO.go (ps_aload_n (kk := 0) hx hb rfl (by decide +kernel)), ?_⟩
  refine List.forall_mem_cons.mpr ⟨pm_IO.go (ps_iconst hx hb (n := (1)) (v := (1)) (by decide +kernel) (by decide +kernel)), ?_⟩
  refine List.forall_mem_cons.mpr ⟨pm_IO.go (ps_put hx hb hG in_Mo ty_Mo tk_Mo nm_Mo hown hK (ci := 7) rfl 20 (by decide +kernel) (hG _ wi_825) (fun _ h9 => h9) rfl pm_fit_bool (by decide +kernel)), ?_⟩
  refine List.forall_mem_cons.mpr ⟨pm_IO.go (ps_aload_n (kk := 0) hx hb rfl (by decide +kernel)), ?_⟩
  refine List.forall_mem_cons.mpr ⟨pm_IO.go (ps_aload_n (kk := 0) hx hb rfl (by decide +kernel)), ?_⟩
  refine List.forall_mem_cons.mpr ⟨pm_IO.go (ps_get hx hb hG in_Mo hown hK (ci := 7) rfl 12 (by decide +kernel) (hG _ wi_817) (fun _ h9 => h9) (by decide +kernel)), ?_⟩
  refine List.forall_mem_cons.mpr ⟨pm_IO.go (ps_put hx hb hG in_Mo ty_Mo tk_Mo nm_Mo hown hK (ci := 7) rfl 21 (by decide +kernel) (hG _ wi_826) (fun _ h9 => h9) rfl pm_fit_int (by decide +kernel)), ?_⟩
  refine List.forall_mem_cons.mpr ⟨pm_IO.go (ps_aload_n (kk := 0) hx hb rfl (by decide +kernel)), ?_⟩
  refine List.forall_mem_cons.mpr ⟨pm_IO.go (ps_iconst hx hb (n := (0)) (v := (0)) (by decide +kernel) (by decide +kernel)), ?_⟩
  refine List.forall_mem_cons.mpr ⟨pm_IO.go (ps_put hx hb hG in_Mo ty_Mo tk_Mo nm_Mo hown hK (ci := 7) rfl 22 (by decide +kernel) (hG _ wi_827) (fun _ h9 => h9) rfl pm_fit_int (by decide +kernel)), ?_⟩
  refine List.forall_mem_cons.mpr ⟨pm_IO.go (ps_aload_n (kk := 0) hx hb rfl (by decide +kernel)), ?_⟩
  refine List.forall_mem_cons.mpr ⟨pl_V hx hb hown (hG _ wi_1026) (hG _ wi_1028) (hG _ ws_Mo_again) (sg_Mo_again hG) (by decide +kernel) hK (ci := 7) rfl rfl (n := 0) (by decide +kernel) (cw_Mo_again hG) mi_Mo_again (by decide +kernel), ?_⟩
  refine List.forall_mem_cons.mpr ⟨pm_IO.go (ps_pop hx hb (by decide +kernel)), ?_⟩
  refine List.forall_mem_cons.mpr ⟨pm_IO.fin fin_vret (ps_vret hx hb hr hlocks (by decide +kernel)), ?_⟩
  exact fun _ h => absurd h List.not_mem_nil
theorem ok_Mo_start (hl9 : l.stackTraces = false) : pm_Ok l (pj_KF D aC z sa) D pj_cl z b aC pj_xn pj_mi (pj_P xs L) 121 :=
  pm_okW (ret := (Option.none : Option Jvm.ClassFile.FieldType)) rfl rfl mi_Mo_start rfl mo_Mo_start (fun p e R s m args below meth c k0 s0 n0 hcx hno hF hz hf hlo => pm_B.tbl rfl (io_Mo_start hl9 hcx hno hF hz hf hlo) (fun pc x ls h H locs LS cells slots q ce rest hl hq hS hk hs hn hce hcv hcl => ⟨fun pc1 i hM => (nomatch (show (Sum.inr true : (Nat × Nat) ⊕ Bool) = .inl (pc1, i) from hM)), fun _ => pm_pass hno hcx.2.2.2.2.1 hq hS hk hs hce hcv hcl⟩))
theorem mo_Mo_again_ : ∀ q ∈ tb_Mo_again, pm_MO q.2 := by
  unfold tb_Mo_again
  refine List.forall_mem_cons.mpr ⟨pm_MO.go (mo_aload _ _), ?_⟩
  refine List.forall_mem_cons.mpr ⟨pm_MO.go (mo_c _ _), ?_⟩
  refine List.forall_mem_cons.mpr ⟨pm_MO.go (mo_aload _ _), ?_⟩
  refine List.forall_mem_cons.mpr ⟨pm_MO.go (mo_get _ _), ?_⟩
  refine List.forall_mem_cons.mpr ⟨mo_callv _ _ _, ?_⟩
  refine List.forall_mem_cons.mpr ⟨pm_MO.go (mo_aload _ _), ?_⟩
  refine List.forall_mem_cons.mpr ⟨pm_MO.go (mo_c _ _), ?_⟩
  refine List.forall_mem_cons.mpr ⟨pm_MO.go (mo_put _ _ _), ?_⟩
  refine List.forall_mem_cons.mpr ⟨pm_MO.go (mo_aload _ _), ?_⟩
  refine List.forall_mem_cons.mpr ⟨pm_MO.go (mo_c _ _), ?_⟩
  refine List.forall_mem_cons.mpr ⟨pm_MO.go (mo_put _ _ _), ?_⟩
  refine List.forall_mem_cons.mpr ⟨pm_MO.go (mo_aload _ _), ?_⟩
  refine List.forall_mem_cons.mpr ⟨pm_MO.go (mo_c _ _), ?_⟩
  refine List.forall_mem_cons.mpr ⟨pm_MO.go (mo_put _ _ _), ?_⟩
  refine List.forall_mem_cons.mpr ⟨pm_MO.go (mo_aload _ _), ?_⟩
  refine List.forall_mem_cons.mpr ⟨pm_MO.go (mo_c _ _), ?_⟩
  refine List.forall_mem_cons.mpr ⟨pm_MO.go (mo_put _ _ _), ?_⟩
  refine List.forall_mem_cons.mpr ⟨pm_MO.go (mo_aload _ _), ?_⟩
  refine List.forall_mem_cons.mpr ⟨mo_callv _ _ _, ?_⟩
  refine List.forall_mem_cons.mpr ⟨pm_MO.go (mo_aload _ _), ?_⟩
  refine List.forall_mem_cons.mpr ⟨pm_MO.go (mo_get _ _), ?_⟩
  refine List.forall_mem_cons.mpr ⟨pm_MO.go (mo_if _ _), ?_⟩
  refine List.forall_mem_cons.mpr ⟨pm_MO.go (mo_c _ _), ?_⟩
  refine List.forall_mem_cons.mpr ⟨pm_MO.go (mo_goto _), ?_⟩
  refine List.forall_mem_cons.mpr ⟨pm_MO.go (mo_c _ _), ?_⟩
  refine List.forall_mem_cons.mpr ⟨pm_MO.fin fin_iret, ?_⟩
  exact fun _ h => absurd h List.not_mem_nil
theorem mo_Mo_again : pm_MO M_Mo_again.1 := pm_MO.look mo_Mo_again_
set_option maxHeartbeats 4000000 in
theorem io_Mo_again (hl9 : l.stackTraces = false) (hcx : pm_cx p s m args meth c y_Mo_again prog_9_method_42_code 1 (Option.some Jvm.ClassFile.FieldType.int) w_Mo_again) (hno : ∀ x ∈ c.exceptionTable.toList, False) (hF : pj_KF D aC z sa s) (hz : z ≤ s.heap.size ∧ n0 ≤ k0 ∧ (n0 = k0 → s.heap.size = z + n0)) (hf : 8 ≤ R.frames) (hlo : 256 ≤ R.locals) : ∀ q ∈ tb_Mo_again, pm_IO p l e R s m args below meth c D pj_cl z b aC k0 s0 n0 pj_mi (pm_Eo below D pj_cl z b aC pj_xn args s k0 s0) q := by
  obtain ⟨hx, hb, -, hr, hlocks, hname, hown, hts⟩ := hcx
  have hG : ∀ w ∈ pj_G, w.before args s = true := fun w h => hts w (List.mem_cons_of_mem _ h)
  have hK := hF.1
  have hAO := hF.2.1
  have hSt := hF.2.2.2.2.1
  unfold tb_Mo_again
  refine List.forall_mem_cons.mpr ⟨pm_IO.go (ps_aload_n (kk := 0) hx hb rfl (by decide +kernel)), ?_⟩
  refine List.forall_mem_cons.mpr ⟨pm_IO.go (ps_iconst hx hb (n := (0)) (v := (0)) (by decide +kernel) (by decide +kernel)), ?_⟩
  refine List.forall_mem_cons.mpr ⟨pm_IO.go (ps_aload_n (kk := 0) hx hb rfl (by decide +kernel)), ?_⟩
  refine List.forall_mem_cons.mpr ⟨pm_IO.go (ps_get hx hb hG in_Mo hown hK (ci := 7) rfl 21 (by decide +kernel) (hG _ wi_826) (fun _ h9 => h9) (by decide +kernel)), ?_⟩
  refine List.forall_mem_cons.mpr ⟨pl_V hx hb hown (hG _ wi_1030) (hG _ wi_1032) (hG _ ws_Mo_begin) (sg_Mo_begin hG) (by decide +kernel) hK (ci := 7) rfl rfl (n := 2) (by decide +kernel) (cw_Mo_begin hG) mi_Mo_begin (by decide +kernel), ?_⟩
  refine List.forall_mem_cons.mpr ⟨pm_IO.go (ps_aload_n (kk := 0) hx hb rfl (by decide +kernel)), ?_⟩
  refine List.forall_mem_cons.mpr ⟨pm_IO.go (ps_iconst hx hb (n := (0)) (v := (0)) (by decide +kernel) (by decide +kernel)), ?_⟩
  refine List.forall_mem_cons.mpr ⟨pm_IO.go (ps_put hx hb hG in_Mo ty_Mo tk_Mo nm_Mo hown hK (ci := 7) rfl 23 (by decide +kernel) (hG _ wi_828) (fun _ h9 => h9) rfl pm_fit_int (by decide +kernel)), ?_⟩
  refine List.forall_mem_cons.mpr ⟨pm_IO.go (ps_aload_n (kk := 0) hx hb rfl (by decide +kernel)), ?_⟩
  refine List.forall_mem_cons.mpr ⟨pm_IO.go (ps_iconst hx hb (n := (0)) (v := (0)) (by decide +kernel) (by decide +kernel)), ?_⟩
  refine List.forall_mem_cons.mpr ⟨pm_IO.go (ps_put hx hb hG in_Mo ty_Mo tk_Mo nm_Mo hown hK (ci := 7) rfl 24 (by decide +kernel) (hG _ wi_829) (fun _ h9 => h9) rfl pm_fit_int (by decide +kernel)), ?_⟩
  refine List.forall_mem_cons.mpr ⟨pm_IO.go (ps_aload_n (kk := 0) hx hb rfl (by decide +kernel)), ?_⟩
  refine List.forall_mem_cons.mpr ⟨pm_IO.go (ps_iconst hx hb (n := (0)) (v := (0)) (by decide +kernel) (by decide +kernel)), ?_⟩
  refine List.forall_mem_cons.mpr ⟨pm_IO.go (ps_put hx hb hG in_Mo ty_Mo tk_Mo nm_Mo hown hK (ci := 7) rfl 25 (by decide +kernel) (hG _ wi_830) (fun _ h9 => h9) rfl pm_fit_bool (by decide +kernel)), ?_⟩
  refine List.forall_mem_cons.mpr ⟨pm_IO.go (ps_aload_n (kk := 0) hx hb rfl (by decide +kernel)), ?_⟩
  refine List.forall_mem_cons.mpr ⟨pm_IO.go (ps_iconst hx hb (n := (0)) (v := (0)) (by decide +kernel) (by decide +kernel)), ?_⟩
  refine List.forall_mem_cons.mpr ⟨pm_IO.go (ps_put hx hb hG in_Mo ty_Mo tk_Mo nm_Mo hown hK (ci := 7) rfl 26 (by decide +kernel) (hG _ wi_831) (fun _ h9 => h9) rfl pm_fit_int (by decide +kernel)), ?_⟩
  refine List.forall_mem_cons.mpr ⟨pm_IO.go (ps_aload_n (kk := 0) hx hb rfl (by decide +kernel)), ?_⟩
  refine List.forall_mem_cons.mpr ⟨pl_V hx hb hown (hG _ wi_1034) (hG _ wi_1036) (hG _ ws_Mo_all) (sg_Mo_all hG) (by decide +kernel) hK (ci := 7) rfl rfl (n := 0) (by decide +kernel) (cw_Mo_all hG) mi_Mo_all (by decide +kernel), ?_⟩
  refine List.forall_mem_cons.mpr ⟨pm_IO.go (ps_aload_n (kk := 0) hx hb rfl (by decide +kernel)), ?_⟩
  refine List.forall_mem_cons.mpr ⟨pm_IO.go (ps_get hx hb hG in_Mo hown hK (ci := 7) rfl 25 (by decide +kernel) (hG _ wi_830) (fun _ h9 => h9) (by decide +kernel)), ?_⟩
  refine List.forall_mem_cons.mpr ⟨pm_IO.go (ps_if_eq hx hb (off := 7) (by decide +kernel) (by decide +kernel)), ?_⟩
  refine List.forall_mem_cons.mpr ⟨pm_IO.go (ps_iconst hx hb (n := (0)) (v := (0)) (by decide +kernel) (by decide +kernel)), ?_⟩
  refine List.forall_mem_cons.mpr ⟨pm_IO.go (ps_goto hx hb (off := 4) (by decide +kernel) (by decide +kernel)), ?_⟩
  refine List.forall_mem_cons.mpr ⟨pm_IO.go (ps_iconst hx hb (n := (1)) (v := (1)) (by decide +kernel) (by decide +kernel)), ?_⟩
  refine List.forall_mem_cons.mpr ⟨pm_IO.fin fin_iret (ps_iret hx hb hr hlocks (by decide +kernel)), ?_⟩
  exact fun _ h => absurd h List.not_mem_nil
theorem ok_Mo_again (hl9 : l.stackTraces = false) : pm_Ok l (pj_KF D aC z sa) D pj_cl z b aC pj_xn pj_mi (pj_P xs L) 122 :=
  pm_okW (ret := (Option.some Jvm.ClassFile.FieldType.int)) rfl rfl mi_Mo_again rfl mo_Mo_again (fun p e R s m args below meth c k0 s0 n0 hcx hno hF hz hf hlo => pm_B.tbl rfl (io_Mo_again hl9 hcx hno hF hz hf hlo) (fun pc x ls h H locs LS cells slots q ce rest hl hq hS hk hs hn hce hcv hcl => ⟨fun pc1 i hM => (nomatch (show (Sum.inr true : (Nat × Nat) ⊕ Bool) = .inl (pc1, i) from hM)), fun _ => pm_pass hno hcx.2.2.2.2.1 hq hS hk hs hce hcv hcl⟩))
theorem mo_Mo_begin_ : ∀ q ∈ tb_Mo_begin, pm_MO q.2 := by
  unfold tb_Mo_begin
  refine List.forall_mem_cons.mpr ⟨pm_MO.go (mo_iload _ _), ?_⟩
  refine List.forall_mem_cons.mpr ⟨pm_MO.go (mo_istore _ _), ?_⟩
  refine List.forall_mem_cons.mpr ⟨pm_MO.go (mo_iload _ _), ?_⟩
  refine List.forall_mem_cons.mpr ⟨pm_MO.go (mo_iload _ _), ?_⟩
  refine List.forall_mem_cons.mpr ⟨pm_MO.go (mo_c _ _), ?_⟩
  refine List.forall_mem_cons.mpr ⟨pm_MO.go (mo_i2 _), ?_⟩
  refine List.forall_mem_cons.mpr ⟨pm_MO.go (mo_icmp _ _), ?_⟩
  refine List.forall_mem_cons.mpr ⟨pm_MO.go (mo_c _ _), ?_⟩
  refine List.forall_mem_cons.mpr ⟨pm_MO.go (mo_istore _ _), ?_⟩
  refine List.forall_mem_cons.mpr ⟨pm_MO.go (mo_iload _ _), ?_⟩
  refine List.forall_mem_cons.mpr ⟨pm_MO.go (mo_c _ _), ?_⟩
  refine List.forall_mem_cons.mpr ⟨pm_MO.go (mo_icmp _ _), ?_⟩
  refine List.forall_mem_cons.mpr ⟨pm_MO.go (mo_aload _ _), ?_⟩
  refine List.forall_mem_cons.mpr ⟨pm_MO.go (mo_get _ _), ?_⟩
  refine List.forall_mem_cons.mpr ⟨pm_MO.go (mo_c _ _), ?_⟩
  refine List.forall_mem_cons.mpr ⟨pm_MO.go (mo_iload _ _), ?_⟩
  refine List.forall_mem_cons.mpr ⟨pm_MO.go (mo_i2 _), ?_⟩
  refine List.forall_mem_cons.mpr ⟨pm_MO.go (mo_iload _ _), ?_⟩
  refine List.forall_mem_cons.mpr ⟨pm_MO.go (mo_i2 _), ?_⟩
  refine List.forall_mem_cons.mpr ⟨pm_MO.go (mo_c _ _), ?_⟩
  refine List.forall_mem_cons.mpr ⟨pm_MO.go (mo_iast), ?_⟩
  refine List.forall_mem_cons.mpr ⟨pm_MO.go (mo_aload _ _), ?_⟩
  refine List.forall_mem_cons.mpr ⟨pm_MO.go (mo_get _ _), ?_⟩
  refine List.forall_mem_cons.mpr ⟨pm_MO.go (mo_c _ _), ?_⟩
  refine List.forall_mem_cons.mpr ⟨pm_MO.go (mo_iload _ _), ?_⟩
  refine List.forall_mem_cons.mpr ⟨pm_MO.go (mo_i2 _), ?_⟩
  refine List.forall_mem_cons.mpr ⟨pm_MO.go (mo_iload _ _), ?_⟩
  refine List.forall_mem_cons.mpr ⟨pm_MO.go (mo_i2 _), ?_⟩
  refine List.forall_mem_cons.mpr ⟨pm_MO.go (mo_c _ _), ?_⟩
  refine List.forall_mem_cons.mpr ⟨pm_MO.go (mo_iast), ?_⟩
  refine List.forall_mem_cons.mpr ⟨pm_MO.go (mo_iinc _ _ _), ?_⟩
  refine List.forall_mem_cons.mpr ⟨pm_MO.go (mo_goto _), ?_⟩
  refine List.forall_mem_cons.mpr ⟨pm_MO.go (mo_aload _ _), ?_⟩
  refine List.forall_mem_cons.mpr ⟨pm_MO.go (mo_get _ _), ?_⟩
  refine List.forall_mem_cons.mpr ⟨pm_MO.go (mo_iload _ _), ?_⟩
  refine List.forall_mem_cons.mpr ⟨pm_MO.go (mo_c _ _), ?_⟩
  refine List.forall_mem_cons.mpr ⟨pm_MO.go (mo_iast), ?_⟩
  refine List.forall_mem_cons.mpr ⟨pm_MO.go (mo_aload _ _), ?_⟩
  refine List.forall_mem_cons.mpr ⟨pm_MO.go (mo_get _ _), ?_⟩
  refine List.forall_mem_cons.mpr ⟨pm_MO.go (mo_iload _ _), ?_⟩
  refine List.forall_mem_cons.mpr ⟨pm_MO.go (mo_c _ _), ?_⟩
  refine List.forall_mem_cons.mpr ⟨pm_MO.go (mo_iast), ?_⟩
  refine List.forall_mem_cons.mpr ⟨pm_MO.go (mo_aload _ _), ?_⟩
  refine List.forall_mem_cons.mpr ⟨pm_MO.go (mo_get _ _), ?_⟩
  refine List.forall_mem_cons.mpr ⟨pm_MO.go (mo_iload _ _), ?_⟩
  refine List.forall_mem_cons.mpr ⟨pm_MO.go (mo_iload _ _), ?_⟩
  refine List.forall_mem_cons.mpr ⟨pm_MO.go (mo_iload _ _), ?_⟩
  refine List.forall_mem_cons.mpr ⟨pm_MO.go (mo_iload _ _), ?_⟩
  refine List.forall_mem_cons.mpr ⟨pm_MO.go (mo_i2 _), ?_⟩
  refine List.forall_mem_cons.mpr ⟨pm_MO.go (mo_icmp _ _), ?_⟩
  refine List.forall_mem_cons.mpr ⟨pm_MO.go (mo_c _ _), ?_⟩
  refine List.forall_mem_cons.mpr ⟨pm_MO.go (mo_goto _), ?_⟩
  refine List.forall_mem_cons.mpr ⟨pm_MO.go (mo_c _ _), ?_⟩
  refine List.forall_mem_cons.mpr ⟨pm_MO.go (mo_zast), ?_⟩
  refine List.forall_mem_cons.mpr ⟨pm_MO.go (mo_iinc _ _ _), ?_⟩
  refine List.forall_mem_cons.mpr ⟨pm_MO.go (mo_goto _), ?_⟩
  refine List.forall_mem_cons.mpr ⟨pm_MO.fin fin_vret, ?_⟩
  exact fun _ h => absurd h List.not_mem_nil
theorem mo_Mo_begin : pm_MO M_Mo_begin.1 := pm_MO.look mo_Mo_begin_
set_option maxHeartbeats 4000000 in
theorem io_Mo_begin (hl9 : l.stackTraces = false) (hcx : pm_cx p s m args meth c y_Mo_begin prog_9_method_30_code 5 (Option.none : Option Jvm.ClassFile.FieldType) w_Mo_begin) (hno : ∀ x ∈ c.exceptionTable.toList, False) (hF : pj_KF D aC z sa s) (hz : z ≤ s.heap.size ∧ n0 ≤ k0 ∧ (n0 = k0 → s.heap.size = z + n0)) (hf : 8 ≤ R.frames) (hlo : 256 ≤ R.locals) : ∀ q ∈ tb_Mo_begin, pm_IO p l e R s m args below meth c D pj_cl z b aC k0 s0 n0 pj_mi (pm_Eo below D pj_cl z b aC pj_xn args s k0 s0) q := by
  obtain ⟨hx, hb, -, hr, hlocks, hname, hown, hts⟩ := hcx
  have hG : ∀ w ∈ pj_G, w.before args s = true := fun w h => hts w (List.mem_cons_of_mem _ h)
  have hK := hF.1
  have hAO := hF.2.1
  have hSt := hF.2.2.2.2.1
  unfold tb_Mo_begin
  refine List.forall_mem_cons.mpr ⟨pm_IO.go (ps_iload_n (kk := 1) hx hb rfl (by decide +kernel)), ?_⟩
  refine List.forall_mem_cons.mpr ⟨pm_IO.go (ps_istore_n (kk := 3) hx hb rfl (by decide +kernel)), ?_⟩
  refine List.forall_mem_cons.mpr ⟨pm_IO.go (ps_iload_n (kk := 3) hx hb rfl (by decide +kernel)), ?_⟩
  refine List.forall_mem_cons.mpr ⟨pm_IO.go (ps_iload_n (kk := 1) hx hb rfl (by decide +kernel)), ?_⟩
  refine List.forall_mem_cons.mpr ⟨pm_IO.go (ps_bipush hx hb (n := (8)) (v := (8)) (by decide +kernel) (by decide +kernel)), ?_⟩
  refine List.forall_mem_cons.mpr ⟨pm_IO.go (ps_iadd hx hb (by decide +kernel)), ?_⟩
  refine List.forall_mem_cons.mpr ⟨pm_IO.go (ps_icmp_ge hx hb (off := 83) (by decide +kernel) (by decide +kernel)), ?_⟩
  refine List.forall_mem_cons.mpr ⟨pm_IO.go (ps_iconst hx hb (n := (0)) (v := (0)) (by decide +kernel) (by decide +kernel)), ?_⟩
  refine List.forall_mem_cons.mpr ⟨pm_IO.go (ps_istore hx hb (by decide +kernel)), ?_⟩
  refine List.forall_mem_cons.mpr ⟨pm_IO.go (ps_iload hx hb (by decide +kernel)), ?_⟩
  refine List.forall_mem_cons.mpr ⟨pm_IO.go (ps_bipush hx hb (n := (8)) (v := (8)) (by decide +kernel) (by decide +kernel)), ?_⟩
  refine List.forall_mem_cons.mpr ⟨pm_IO.go (ps_icmp_ge hx hb (off := 35) (by decide +kernel) (by decide +kernel)), ?_⟩
  refine List.forall_mem_cons.mpr ⟨pm_IO.go (ps_aload_n (kk := 0) hx hb rfl (by decide +kernel)), ?_⟩
  refine List.forall_mem_cons.mpr ⟨pm_IO.go (ps_get hx hb hG in_Mo hown hK (ci := 7) rfl 13 (by decide +kernel) (hG _ wi_818) (fun _ h9 => h9) (by decide +kernel)), ?_⟩
  refine List.forall_mem_cons.mpr ⟨pm_IO.go (ps_bipush hx hb (n := (8)) (v := (8)) (by decide +kernel) (by decide +kernel)), ?_⟩
  refine List.forall_mem_cons.mpr ⟨pm_IO.go (ps_iload_n (kk := 3) hx hb rfl (by decide +kernel)), ?_⟩
  refine List.forall_mem_cons.mpr ⟨pm_IO.go (ps_imul hx hb (by decide +kernel)), ?_⟩
  refine List.forall_mem_cons.mpr ⟨pm_IO.go (ps_iload hx hb (by decide +kernel)), ?_⟩
  refine List.forall_mem_cons.mpr ⟨pm_IO.go (ps_iadd hx hb (by decide +kernel)), ?_⟩
  refine List.forall_mem_cons.mpr ⟨pm_IO.go (ps_iconst hx hb (n := (0)) (v := (0)) (by decide +kernel) (by decide +kernel)), ?_⟩
  refine List.forall_mem_cons.mpr ⟨pm_IO.go (ps_iast hx hb hK 0 rfl (by decide +kernel)), ?_⟩
  refine List.forall_mem_cons.mpr ⟨pm_IO.go (ps_aload_n (kk := 0) hx hb rfl (by decide +kernel)), ?_⟩
  refine List.forall_mem_cons.mpr ⟨pm_IO.go (ps_get hx hb hG in_Mo hown hK (ci := 7) rfl 14 (by decide +kernel) (hG _ wi_819) (fun _ h9 => h9) (by decide +kernel)), ?_⟩
  refine List.forall_mem_cons.mpr ⟨pm_IO.go (ps_bipush hx hb (n := (8)) (v := (8)) (by decide +kernel) (by decide +kernel)), ?_⟩
  refine List.forall_mem_cons.mpr ⟨pm_IO.go (ps_iload_n (kk := 3) hx hb rfl (by decide +kernel)), ?_⟩
  refine List.forall_mem_cons.mpr ⟨pm_IO.go (ps_imul hx hb (by decide +kernel)), ?_⟩
  refine List.forall_mem_cons.mpr ⟨pm_IO.go (ps_iload hx hb (by decide +kernel)), ?_⟩
  refine List.forall_mem_cons.mpr ⟨pm_IO.go (ps_iadd hx hb (by decide +kernel)), ?_⟩
  refine List.forall_mem_cons.mpr ⟨pm_IO.go (ps_iconst hx hb (n := (0)) (v := (0)) (by decide +kernel) (by decide +kernel)), ?_⟩
  refine List.forall_mem_cons.mpr ⟨pm_IO.go (ps_iast hx hb hK 0 rfl (by decide +kernel)), ?_⟩
  refine List.forall_mem_cons.mpr ⟨pm_IO.go (ps_iinc hx hb (n := (1)) (v := (1)) (by decide +kernel) (by decide +kernel)), ?_⟩
  refine List.forall_mem_cons.mpr ⟨pm_IO.go (ps_goto hx hb (off := -36) (by decide +kernel) (by decide +kernel)), ?_⟩
  refine List.forall_mem_cons.mpr ⟨pm_IO.go (ps_aload_n (kk := 0) hx hb rfl (by decide +kernel)), ?_⟩
  refine List.forall_mem_cons.mpr ⟨pm_IO.go (ps_get hx hb hG in_Mo hown hK (ci := 7) rfl 16 (by decide +kernel) (hG _ wi_821) (fun _ h9 => h9) (by decide +kernel)), ?_⟩
  refine List.forall_mem_cons.mpr ⟨pm_IO.go (ps_iload_n (kk := 3) hx hb rfl (by decide +kernel)), ?_⟩
  refine List.forall_mem_cons.mpr ⟨pm_IO.go (ps_iconst hx hb (n := (0)) (v := (0)) (by decide +kernel) (by decide +kernel)), ?_⟩
  refine List.forall_mem_cons.mpr ⟨pm_IO.go (ps_iast hx hb hK 0 rfl (by decide +kernel)), ?_⟩
  refine List.forall_mem_cons.mpr ⟨pm_IO.go (ps_aload_n (kk := 0) hx hb rfl (by decide +kernel)), ?_⟩
  refine List.forall_mem_cons.mpr ⟨pm_IO.go (ps_get hx hb hG in_Mo hown hK (ci := 7) rfl 17 (by decide +kernel) (hG _ wi_822) (fun _ h9 => h9) (by decide +kernel)), ?_⟩
  refine List.forall_mem_cons.mpr ⟨pm_IO.go (ps_iload_n (kk := 3) hx hb rfl (by decide +kernel)), ?_⟩
  refine List.forall_mem_cons.mpr ⟨pm_IO.go (ps_iconst hx hb (n := (0)) (v := (0)) (by decide +kernel) (by decide +kernel)), ?_⟩
  refine List.forall_mem_cons.mpr ⟨pm_IO.go (ps_iast hx hb hK 0 rfl (by decide +kernel)), ?_⟩
  refine List.forall_mem_cons.mpr ⟨pm_IO.go (ps_aload_n (kk := 0) hx hb rfl (by decide +kernel)), ?_⟩
  refine List.forall_mem_cons.mpr ⟨pm_IO.go (ps_get hx hb hG in_Mo hown hK (ci := 7) rfl 18 (by decide +kernel) (hG _ wi_823) (fun _ h9 => h9) (by decide +kernel)), ?_⟩
  refine List.forall_mem_cons.mpr ⟨pm_IO.go (ps_iload_n (kk := 3) hx hb rfl (by decide +kernel)), ?_⟩
  refine List.forall_mem_cons.mpr ⟨pm_IO.go (ps_iload_n (kk := 3) hx hb rfl (by decide +kernel)), ?_⟩
  refine List.forall_mem_cons.mpr ⟨pm_IO.go (ps_iload_n (kk := 1) hx hb rfl (by decide +kernel)), ?_⟩
  refine List.forall_mem_cons.mpr ⟨pm_IO.go (ps_iload_n (kk := 2) hx hb rfl (by decide +kernel)), ?_⟩
  refine List.forall_mem_cons.mpr ⟨pm_IO.go (ps_iadd hx hb (by decide +kernel)), ?_⟩
  refine List.forall_mem_cons.mpr ⟨pm_IO.go (ps_icmp_lt hx hb (off := 7) (by decide +kernel) (by decide +kernel)), ?_⟩
  refine List.forall_mem_cons.mpr ⟨pm_IO.go (ps_iconst hx hb (n := (1)) (v := (1)) (by decide +kernel) (by decide +kernel)), ?_⟩
  refine List.forall_mem_cons.mpr ⟨pm_IO.go (ps_goto hx hb (off := 4) (by decide +kernel) (by decide +kernel)), ?_⟩
  refine List.forall_mem_cons.mpr ⟨pm_IO.go (ps_iconst hx hb (n := (0)) (v := (0)) (by decide +kernel) (by decide +kernel)), ?_⟩
  refine List.forall_mem_cons.mpr ⟨pm_IO.go (ps_zast hx hb hK 2 rfl (by decide +kernel)), ?_⟩
  refine List.forall_mem_cons.mpr ⟨pm_IO.go (ps_iinc hx hb (n := (1)) (v := (1)) (by decide +kernel) (by decide +kernel)), ?_⟩
  refine List.forall_mem_cons.mpr ⟨pm_IO.go (ps_goto hx hb (off := -85) (by decide +kernel) (by decide +kernel)), ?_⟩
  refine List.forall_mem_cons.mpr ⟨pm_IO.fin fin_vret (ps_vret hx hb hr hlocks (by decide +kernel)), ?_⟩
  exact fun _ h => absurd h List.not_mem_nil
theorem ok_Mo_begin (hl9 : l.stackTraces = false) : pm_Ok l (pj_KF D aC z sa) D pj_cl z b aC pj_xn pj_mi (pj_P xs L) 123 :=
  pm_okW (ret := (Option.none : Option Jvm.ClassFile.FieldType)) rfl rfl mi_Mo_begin rfl mo_Mo_begin (fun p e R s m args below meth c k0 s0 n0 hcx hno hF hz hf hlo => pm_B.tbl rfl (io_Mo_begin hl9 hcx hno hF hz hf hlo) (fun pc x ls h H locs LS cells slots q ce rest hl hq hS hk hs hn hce hcv hcl => ⟨fun pc1 i hM => (nomatch (show (Sum.inr true : (Nat × Nat) ⊕ Bool) = .inl (pc1, i) from hM)), fun _ => pm_pass hno hcx.2.2.2.2.1 hq hS hk hs hce hcv hcl⟩))
theorem mo_Mo_all_ : ∀ q ∈ tb_Mo_all, pm_MO q.2 := by
  unfold tb_Mo_all
  refine List.forall_mem_cons.mpr ⟨pm_MO.go (mo_c _ _), ?_⟩
  refine List.forall_mem_cons.mpr ⟨pm_MO.go (mo_istore _ _), ?_⟩
  refine List.forall_mem_cons.mpr ⟨pm_MO.go (mo_aload _ _), ?_⟩
  refine List.forall_mem_cons.mpr ⟨pm_MO.go (mo_c _ _), ?_⟩
  refine List.forall_mem_cons.mpr ⟨pm_MO.go (mo_put _ _ _), ?_⟩
  refine List.forall_mem_cons.mpr ⟨pm_MO.go (mo_aload _ _), ?_⟩
  refine List.forall_mem_cons.mpr ⟨pm_MO.go (mo_c _ _), ?_⟩
  refine List.forall_mem_cons.mpr ⟨pm_MO.go (mo_put _ _ _), ?_⟩
  refine List.forall_mem_cons.mpr ⟨pm_MO.go (mo_iload _ _), ?_⟩
  refine List.forall_mem_cons.mpr ⟨pm_MO.go (mo_if _ _), ?_⟩
  refine List.forall_mem_cons.mpr ⟨pm_MO.go (mo_iload _ _), ?_⟩
  refine List.forall_mem_cons.mpr ⟨pm_MO.go (mo_aload _ _), ?_⟩
  refine List.forall_mem_cons.mpr ⟨pm_MO.go (mo_get _ _), ?_⟩
  refine List.forall_mem_cons.mpr ⟨pm_MO.go (mo_icmp _ _), ?_⟩
  refine List.forall_mem_cons.mpr ⟨pm_MO.go (mo_aload _ _), ?_⟩
  refine List.forall_mem_cons.mpr ⟨pm_MO.go (mo_get _ _), ?_⟩
  refine List.forall_mem_cons.mpr ⟨pm_MO.go (mo_iload _ _), ?_⟩
  refine List.forall_mem_cons.mpr ⟨pm_MO.go (mo_iald), ?_⟩
  refine List.forall_mem_cons.mpr ⟨pm_MO.go (mo_istore _ _), ?_⟩
  refine List.forall_mem_cons.mpr ⟨pm_MO.go (mo_iload _ _), ?_⟩
  refine List.forall_mem_cons.mpr ⟨pm_MO.go (mo_c _ _), ?_⟩
  refine List.forall_mem_cons.mpr ⟨pm_MO.go (mo_icmp _ _), ?_⟩
  refine List.forall_mem_cons.mpr ⟨pm_MO.go (mo_iload _ _), ?_⟩
  refine List.forall_mem_cons.mpr ⟨pm_MO.go (mo_c _ _), ?_⟩
  refine List.forall_mem_cons.mpr ⟨pm_MO.go (mo_icmp _ _), ?_⟩
  refine List.forall_mem_cons.mpr ⟨pm_MO.go (mo_c _ _), ?_⟩
  refine List.forall_mem_cons.mpr ⟨pm_MO.go (mo_goto _), ?_⟩
  refine List.forall_mem_cons.mpr ⟨pm_MO.go (mo_c _ _), ?_⟩
  refine List.forall_mem_cons.mpr ⟨pm_MO.go (mo_istore _ _), ?_⟩
  refine List.forall_mem_cons.mpr ⟨pm_MO.go (mo_aload _ _), ?_⟩
  refine List.forall_mem_cons.mpr ⟨pm_MO.go (mo_aload _ _), ?_⟩
  refine List.forall_mem_cons.mpr ⟨pm_MO.go (mo_get _ _), ?_⟩
  refine List.forall_mem_cons.mpr ⟨mo_callv _ _ _, ?_⟩
  refine List.forall_mem_cons.mpr ⟨pm_MO.go (mo_istore _ _), ?_⟩
  refine List.forall_mem_cons.mpr ⟨pm_MO.go (mo_iload _ _), ?_⟩
  refine List.forall_mem_cons.mpr ⟨pm_MO.go (mo_c _ _), ?_⟩
  refine List.forall_mem_cons.mpr ⟨pm_MO.go (mo_icmp _ _), ?_⟩
  refine List.forall_mem_cons.mpr ⟨pm_MO.go (mo_aload _ _), ?_⟩
  refine List.forall_mem_cons.mpr ⟨pm_MO.go (mo_iload _ _), ?_⟩
  refine List.forall_mem_cons.mpr ⟨mo_callv _ _ _, ?_⟩
  refine List.forall_mem_cons.mpr ⟨pm_MO.go (mo_istore _ _), ?_⟩
  refine List.forall_mem_cons.mpr ⟨pm_MO.go (mo_goto _), ?_⟩
  refine List.forall_mem_cons.mpr ⟨pm_MO.go (mo_iload _ _), ?_⟩
  refine List.forall_mem_cons.mpr ⟨pm_MO.go (mo_if _ _), ?_⟩
  refine List.forall_mem_cons.mpr ⟨pm_MO.go (mo_iload _ _), ?_⟩
  refine List.forall_mem_cons.mpr ⟨pm_MO.go (mo_if _ _), ?_⟩
  refine List.forall_mem_cons.mpr ⟨pm_MO.go (mo_aload _ _), ?_⟩
  refine List.forall_mem_cons.mpr ⟨pm_MO.go (mo_iload _ _), ?_⟩
  refine List.forall_mem_cons.mpr ⟨mo_callv _ _ _, ?_⟩
  refine List.forall_mem_cons.mpr ⟨pm_MO.go (mo_goto _), ?_⟩
  refine List.forall_mem_cons.mpr ⟨pm_MO.go (mo_aload _ _), ?_⟩
  refine List.forall_mem_cons.mpr ⟨pm_MO.go (mo_get _ _), ?_⟩
  refine List.forall_mem_cons.mpr ⟨pm_MO.go (mo_iload _ _), ?_⟩
  refine List.forall_mem_cons.mpr ⟨pm_MO.go (mo_c _ _), ?_⟩
  refine List.forall_mem_cons.mpr ⟨pm_MO.go (mo_c _ _), ?_⟩
  refine List.forall_mem_cons.mpr ⟨mo_call _ _, ?_⟩
  refine List.forall_mem_cons.mpr ⟨pm_MO.go (mo_c _ _), ?_⟩
  refine List.forall_mem_cons.mpr ⟨pm_MO.go (mo_i2 _), ?_⟩
  refine List.forall_mem_cons.mpr ⟨pm_MO.go (mo_istore _ _), ?_⟩
  refine List.forall_mem_cons.mpr ⟨pm_MO.go (mo_goto _), ?_⟩
  refine List.forall_mem_cons.mpr ⟨pm_MO.go (mo_aload _ _), ?_⟩
  refine List.forall_mem_cons.mpr ⟨pm_MO.go (mo_iload _ _), ?_⟩
  refine List.forall_mem_cons.mpr ⟨mo_callv _ _ _, ?_⟩
  refine List.forall_mem_cons.mpr ⟨pm_MO.go (mo_if _ _), ?_⟩
  refine List.forall_mem_cons.mpr ⟨pm_MO.go (mo_c _ _), ?_⟩
  refine List.forall_mem_cons.mpr ⟨pm_MO.go (mo_istore _ _), ?_⟩
  refine List.forall_mem_cons.mpr ⟨pm_MO.go (mo_goto _), ?_⟩
  refine List.forall_mem_cons.mpr ⟨pm_MO.go (mo_iload _ _), ?_⟩
  refine List.forall_mem_cons.mpr ⟨pm_MO.go (mo_if _ _), ?_⟩
  refine List.forall_mem_cons.mpr ⟨pm_MO.go (mo_aload _ _), ?_⟩
  refine List.forall_mem_cons.mpr ⟨pm_MO.go (mo_iload _ _), ?_⟩
  refine List.forall_mem_cons.mpr ⟨pm_MO.go (mo_iload _ _), ?_⟩
  refine List.forall_mem_cons.mpr ⟨mo_callv _ _ _, ?_⟩
  refine List.forall_mem_cons.mpr ⟨pm_MO.go (mo_istore _ _), ?_⟩
  refine List.forall_mem_cons.mpr ⟨pm_MO.go (mo_goto _), ?_⟩
  refine List.forall_mem_cons.mpr ⟨pm_MO.go (mo_aload _ _), ?_⟩
  refine List.forall_mem_cons.mpr ⟨pm_MO.go (mo_iload _ _), ?_⟩
  refine List.forall_mem_cons.mpr ⟨pm_MO.go (mo_iload _ _), ?_⟩
  refine List.forall_mem_cons.mpr ⟨mo_callv _ _ _, ?_⟩
  refine List.forall_mem_cons.mpr ⟨pm_MO.go (mo_aload _ _), ?_⟩
  refine List.forall_mem_cons.mpr ⟨pm_MO.go (mo_get _ _), ?_⟩
  refine List.forall_mem_cons.mpr ⟨pm_MO.go (mo_iload _ _), ?_⟩
  refine List.forall_mem_cons.mpr ⟨pm_MO.go (mo_c _ _), ?_⟩
  refine List.forall_mem_cons.mpr ⟨pm_MO.go (mo_c _ _), ?_⟩
  refine List.forall_mem_cons.mpr ⟨mo_call _ _, ?_⟩
  refine List.forall_mem_cons.mpr ⟨pm_MO.go (mo_c _ _), ?_⟩
  refine List.forall_mem_cons.mpr ⟨pm_MO.go (mo_i2 _), ?_⟩
  refine List.forall_mem_cons.mpr ⟨pm_MO.go (mo_istore _ _), ?_⟩
  refine List.forall_mem_cons.mpr ⟨pm_MO.go (mo_goto _), ?_⟩
  refine List.forall_mem_cons.mpr ⟨pm_MO.fin fin_vret, ?_⟩
  exact fun _ h => absurd h List.not_mem_nil
theorem mo_Mo_all : pm_MO M_Mo_all.1 := pm_MO.look mo_Mo_all_
set_option maxHeartbeats 4000000 in
theorem io_Mo_all (hl9 : l.stackTraces = false) (hcx : pm_cx p s m args meth c y_Mo_all prog_9_method_40_code 5 (Option.none : Option Jvm.ClassFile.FieldType) w_Mo_all) (hno : ∀ x ∈ c.exceptionTable.toList, False) (hF : pj_KF D aC z sa s) (hz : z ≤ s.heap.size ∧ n0 ≤ k0 ∧ (n0 = k0 → s.heap.size = z + n0)) (hf : 8 ≤ R.frames) (hlo : 256 ≤ R.locals) : ∀ q ∈ tb_Mo_all, pm_IO p l e R s m args below meth c D pj_cl z b aC k0 s0 n0 pj_mi (pm_Eo below D pj_cl z b aC pj_xn args s k0 s0) q := by
  obtain ⟨hx, hb, -, hr, hlocks, hname, hown, hts⟩ := hcx
  have hG : ∀ w ∈ pj_G, w.before args s = true := fun w h => hts w (List.mem_cons_of_mem _ h)
  have hK := hF.1
  have hAO := hF.2.1
  have hSt := hF.2.2.2.2.1
  unfold tb_Mo_all
  refine List.forall_mem_cons.mpr ⟨pm_IO.go (ps_iconst hx hb (n := (0)) (v := (0)) (by decide +kernel) (by decide +kernel)), ?_⟩
  refine List.forall_mem_cons.mpr ⟨pm_IO.go (ps_istore_n (kk := 1) hx hb rfl (by decide +kernel)), ?_⟩
  refine List.forall_mem_cons.mpr ⟨pm_IO.go (ps_aload_n (kk := 0) hx hb rfl (by decide +kernel)), ?_⟩
  refine List.forall_mem_cons.mpr ⟨pm_IO.go (ps_iconst hx hb (n := (0)) (v := (0)) (by decide +kernel) (by decide +kernel)), ?_⟩
  refine List.forall_mem_cons.mpr ⟨pm_IO.go (ps_put hx hb hG in_Mo ty_Mo tk_Mo nm_Mo hown hK (ci := 7) rfl 35 (by decide +kernel) (hG _ wi_840) (fun _ h9 => h9) rfl pm_fit_int (by decide +kernel)), ?_⟩
  refine List.forall_mem_cons.mpr ⟨pm_IO.go (ps_aload_n (kk := 0) hx hb rfl (by decide +kernel)), ?_⟩
  refine List.forall_mem_cons.mpr ⟨pm_IO.go (ps_sipush hx hb (n := (255)) (v := (255)) (by decide +kernel) (by decide +kernel)), ?_⟩
  refine List.forall_mem_cons.mpr ⟨pm_IO.go (ps_put hx hb hG in_Mo ty_Mo tk_Mo nm_Mo hown hK (ci := 7) rfl 36 (by decide +kernel) (hG _ wi_841) (fun _ h9 => h9) rfl pm_fit_int (by decide +kernel)), ?_⟩
  refine List.forall_mem_cons.mpr ⟨pm_IO.go (ps_iload_n (kk := 1) hx hb rfl (by decide +kernel)), ?_⟩
  refine List.forall_mem_cons.mpr ⟨pm_IO.go (ps_if_lt hx hb (off := 150) (by decide +kernel) (by decide +kernel)), ?_⟩
  refine List.forall_mem_cons.mpr ⟨pm_IO.go (ps_iload_n (kk := 1) hx hb rfl (by decide +kernel)), ?_⟩
  refine List.forall_mem_cons.mpr ⟨pm_IO.go (ps_aload_n (kk := 0) hx hb rfl (by decide +kernel)), ?_⟩
  refine List.forall_mem_cons.mpr ⟨pm_IO.go (ps_get hx hb hG in_Mo hown hK (ci := 7) rfl 4 (by decide +kernel) (hG _ wi_809) (fun _ h9 => h9) (by decide +kernel)), ?_⟩
  refine List.forall_mem_cons.mpr ⟨pm_IO.go (ps_icmp_ge hx hb (off := 142) (by decide +kernel) (by decide +kernel)), ?_⟩
  refine List.forall_mem_cons.mpr ⟨pm_IO.go (ps_aload_n (kk := 0) hx hb rfl (by decide +kernel)), ?_⟩
  refine List.forall_mem_cons.mpr ⟨pm_IO.go (ps_get hx hb hG in_Mo hown hK (ci := 7) rfl 3 (by decide +kernel) (hG _ wi_808) (fun _ h9 => h9) (by decide +kernel)), ?_⟩
  refine List.forall_mem_cons.mpr ⟨pm_IO.go (ps_iload_n (kk := 1) hx hb rfl (by decide +kernel)), ?_⟩
  refine List.forall_mem_cons.mpr ⟨pm_IO.go (ps_iald hx hb hK 0 rfl (by decide +kernel)), ?_⟩
  refine List.forall_mem_cons.mpr ⟨pm_IO.go (ps_istore_n (kk := 2) hx hb rfl (by decide +kernel)), ?_⟩
  refine List.forall_mem_cons.mpr ⟨pm_IO.go (ps_iload_n (kk := 2) hx hb rfl (by decide +kernel)), ?_⟩
  refine List.forall_mem_cons.mpr ⟨pm_IO.go (ps_bipush hx hb (n := (63)) (v := (63)) (by decide +kernel) (by decide +kernel)), ?_⟩
  refine List.forall_mem_cons.mpr ⟨pm_IO.go (ps_icmp_eq hx hb (off := 9) (by decide +kernel) (by decide +kernel)), ?_⟩
  refine List.forall_mem_cons.mpr ⟨pm_IO.go (ps_iload_n (kk := 2) hx hb rfl (by decide +kernel)), ?_⟩
  refine List.forall_mem_cons.mpr ⟨pm_IO.go (ps_bipush hx hb (n := (42)) (v := (42)) (by decide +kernel) (by decide +kernel)), ?_⟩
  refine List.forall_mem_cons.mpr ⟨pm_IO.go (ps_icmp_ne hx hb (off := 7) (by decide +kernel) (by decide +kernel)), ?_⟩
  refine List.forall_mem_cons.mpr ⟨pm_IO.go (ps_iconst hx hb (n := (1)) (v := (1)) (by decide +kernel) (by decide +kernel)), ?_⟩
  refine List.forall_mem_cons.mpr ⟨pm_IO.go (ps_goto hx hb (off := 4) (by decide +kernel) (by decide +kernel)), ?_⟩
  refine List.forall_mem_cons.mpr ⟨pm_IO.go (ps_iconst hx hb (n := (0)) (v := (0)) (by decide +kernel) (by decide +kernel)), ?_⟩
  refine List.forall_mem_cons.mpr ⟨pm_IO.go (ps_istore_n (kk := 3) hx hb rfl (by decide +kernel)), ?_⟩
  refine List.forall_mem_cons.mpr ⟨pm_IO.go (ps_aload_n (kk := 0) hx hb rfl (by decide +kernel)), ?_⟩
  refine List.forall_mem_cons.mpr ⟨pm_IO.go (ps_aload_n (kk := 0) hx hb rfl (by decide +kernel)), ?_⟩
  refine List.forall_mem_cons.mpr ⟨pm_IO.go (ps_get hx hb hG in_Mo hown hK (ci := 7) rfl 36 (by decide +kernel) (hG _ wi_841) (fun _ h9 => h9) (by decide +kernel)), ?_⟩
  refine List.forall_mem_cons.mpr ⟨pl_V hx hb hown (hG _ wi_1038) (hG _ wi_1040) (hG _ ws_Mo_going) (sg_Mo_going hG) (by decide +kernel) hK (ci := 7) rfl rfl (n := 1) (by decide +kernel) (cw_Mo_going hG) mi_Mo_going (by decide +kernel), ?_⟩
  refine List.forall_mem_cons.mpr ⟨pm_IO.go (ps_istore hx hb (by decide +kernel)), ?_⟩
  refine List.forall_mem_cons.mpr ⟨pm_IO.go (ps_iload_n (kk := 2) hx hb rfl (by decide +kernel)), ?_⟩
  refine List.forall_mem_cons.mpr ⟨pm_IO.go (ps_bipush hx hb (n := (125)) (v := (125)) (by decide +kernel) (by decide +kernel)), ?_⟩
  refine List.forall_mem_cons.mpr ⟨pm_IO.go (ps_icmp_ne hx hb (off := 12) (by decide +kernel) (by decide +kernel)), ?_⟩
  refine List.forall_mem_cons.mpr ⟨pm_IO.go (ps_aload_n (kk := 0) hx hb rfl (by decide +kernel)), ?_⟩
  refine List.forall_mem_cons.mpr ⟨pm_IO.go (ps_iload_n (kk := 1) hx hb rfl (by decide +kernel)), ?_⟩
  refine List.forall_mem_cons.mpr ⟨pl_V hx hb hown (hG _ wi_1042) (hG _ wi_1044) (hG _ ws_Mo_shuts) (sg_Mo_shuts hG) (by decide +kernel) hK (ci := 7) rfl rfl (n := 1) (by decide +kernel) (cw_Mo_shuts hG) mi_Mo_shuts (by decide +kernel), ?_⟩
  refine List.forall_mem_cons.mpr ⟨pm_IO.go (ps_istore_n (kk := 1) hx hb rfl (by decide +kernel)), ?_⟩
  refine List.forall_mem_cons.mpr ⟨pm_IO.go (ps_goto hx hb (off := 89) (by decide +kernel) (by decide +kernel)), ?_⟩
  refine List.forall_mem_cons.mpr ⟨pm_IO.go (ps_iload hx hb (by decide +kernel)), ?_⟩
  refine List.forall_mem_cons.mpr ⟨pm_IO.go (ps_if_ne hx hb (off := 33) (by decide +kernel) (by decide +kernel)), ?_⟩
  refine List.forall_mem_cons.mpr ⟨pm_IO.go (ps_iload_n (kk := 3) hx hb rfl (by decide +kernel)), ?_⟩
  refine List.forall_mem_cons.mpr ⟨pm_IO.go (ps_if_eq hx hb (off := 11) (by decide +kernel) (by decide +kernel)), ?_⟩
  refine List.forall_mem_cons.mpr ⟨pm_IO.go (ps_aload_n (kk := 0) hx hb rfl (by decide +kernel)), ?_⟩
  refine List.forall_mem_cons.mpr ⟨pm_IO.go (ps_iload_n (kk := 1) hx hb rfl (by decide +kernel)), ?_⟩
  refine List.forall_mem_cons.mpr ⟨pl_V hx hb hown (hG _ wi_1076) (hG _ wi_1078) (hG _ ws_Mo_behindAll) (sg_Mo_behindAll hG) (by decide +kernel) hK (ci := 7) rfl rfl (n := 1) (by decide +kernel) (cw_Mo_behindAll hG) mi_Mo_behindAll (by decide +kernel), ?_⟩
  refine List.forall_mem_cons.mpr ⟨pm_IO.go (ps_goto hx hb (off := 17) (by decide +kernel) (by decide +kernel)), ?_⟩
  refine List.forall_mem_cons.mpr ⟨pm_IO.go (ps_aload_n (kk := 0) hx hb rfl (by decide +kernel)), ?_⟩
  refine List.forall_mem_cons.mpr ⟨pm_IO.go (ps_get hx hb hG in_Mo hown hK (ci := 7) rfl 3 (by decide +kernel) (hG _ wi_808) (fun _ h9 => h9) (by decide +kernel)), ?_⟩
  refine List.forall_mem_cons.mpr ⟨pm_IO.go (ps_iload_n (kk := 1) hx hb rfl (by decide +kernel)), ?_⟩
  refine List.forall_mem_cons.mpr ⟨pm_IO.go (ps_bipush hx hb (n := (59)) (v := (59)) (by decide +kernel) (by decide +kernel)), ?_⟩
  refine List.forall_mem_cons.mpr ⟨pm_IO.go (ps_bipush hx hb (n := (59)) (v := (59)) (by decide +kernel) (by decide +kernel)), ?_⟩
  refine List.forall_mem_cons.mpr ⟨pl_S hx hb hown (hG _ wi_999) (hG _ wi_1000) (hG _ wi_8) (sg_Mo_upTo hG) (nd_Mo_upTo hG) (by decide +kernel) (n := 4) (by decide +kernel) (cw_Mo_upTo hG) mi_Mo_upTo (by decide +kernel), ?_⟩
  refine List.forall_mem_cons.mpr ⟨pm_IO.go (ps_iconst hx hb (n := (1)) (v := (1)) (by decide +kernel) (by decide +kernel)), ?_⟩
  refine List.forall_mem_cons.mpr ⟨pm_IO.go (ps_iadd hx hb (by decide +kernel)), ?_⟩
  refine List.forall_mem_cons.mpr ⟨pm_IO.go (ps_istore_n (kk := 1) hx hb rfl (by decide +kernel)), ?_⟩
  refine List.forall_mem_cons.mpr ⟨pm_IO.go (ps_goto hx hb (off := 54) (by decide +kernel) (by decide +kernel)), ?_⟩
  refine List.forall_mem_cons.mpr ⟨pm_IO.go (ps_aload_n (kk := 0) hx hb rfl (by decide +kernel)), ?_⟩
  refine List.forall_mem_cons.mpr ⟨pm_IO.go (ps_iload hx hb (by decide +kernel)), ?_⟩
  refine List.forall_mem_cons.mpr ⟨pl_V hx hb hown (hG _ wi_1050) (hG _ wi_1052) (hG _ ws_Mo_issues) (sg_Mo_issues hG) (by decide +kernel) hK (ci := 7) rfl rfl (n := 1) (by decide +kernel) (cw_Mo_issues hG) mi_Mo_issues (by decide +kernel), ?_⟩
  refine List.forall_mem_cons.mpr ⟨pm_IO.go (ps_if_ne hx hb (off := 8) (by decide +kernel) (by decide +kernel)), ?_⟩
  refine List.forall_mem_cons.mpr ⟨pm_IO.go (ps_iconst hx hb (n := (-1)) (v := (-1)) (by decide +kernel) (by decide +kernel)), ?_⟩
  refine List.forall_mem_cons.mpr ⟨pm_IO.go (ps_istore_n (kk := 1) hx hb rfl (by decide +kernel)), ?_⟩
  refine List.forall_mem_cons.mpr ⟨pm_IO.go (ps_goto hx hb (off := 40) (by decide +kernel) (by decide +kernel)), ?_⟩
  refine List.forall_mem_cons.mpr ⟨pm_IO.go (ps_iload_n (kk := 3) hx hb rfl (by decide +kernel)), ?_⟩
  refine List.forall_mem_cons.mpr ⟨pm_IO.go (ps_if_eq hx hb (off := 14) (by decide +kernel) (by decide +kernel)), ?_⟩
  refine List.forall_mem_cons.mpr ⟨pm_IO.go (ps_aload_n (kk := 0) hx hb rfl (by decide +kernel)), ?_⟩
  refine List.forall_mem_cons.mpr ⟨pm_IO.go (ps_iload_n (kk := 1) hx hb rfl (by decide +kernel)), ?_⟩
  refine List.forall_mem_cons.mpr ⟨pm_IO.go (ps_iload hx hb (by decide +kernel)), ?_⟩
  refine List.forall_mem_cons.mpr ⟨pl_V hx hb hown (hG _ wi_1080) (hG _ wi_1082) (hG _ ws_Mo_parts) (sg_Mo_parts hG) (by decide +kernel) hK (ci := 7) rfl rfl (n := 2) (by decide +kernel) (cw_Mo_parts hG) mi_Mo_parts (by decide +kernel), ?_⟩
  refine List.forall_mem_cons.mpr ⟨pm_IO.go (ps_istore_n (kk := 1) hx hb rfl (by decide +kernel)), ?_⟩
  refine List.forall_mem_cons.mpr ⟨pm_IO.go (ps_goto hx hb (off := 25) (by decide +kernel) (by decide +kernel)), ?_⟩
  refine List.forall_mem_cons.mpr ⟨pm_IO.go (ps_aload_n (kk := 0) hx hb rfl (by decide +kernel)), ?_⟩
  refine List.forall_mem_cons.mpr ⟨pm_IO.go (ps_iload_n (kk := 1) hx hb rfl (by decide +kernel)), ?_⟩
  refine List.forall_mem_cons.mpr ⟨pm_IO.go (ps_iload hx hb (by decide +kernel)), ?_⟩
  refine List.forall_mem_cons.mpr ⟨pl_V hx hb hown (hG _ wi_1088) (hG _ wi_1090) (hG _ ws_Mo_simple) (sg_Mo_simple hG) (by decide +kernel) hK (ci := 7) rfl rfl (n := 2) (by decide +kernel) (cw_Mo_simple hG) mi_Mo_simple (by decide +kernel), ?_⟩
  refine List.forall_mem_cons.mpr ⟨pm_IO.go (ps_aload_n (kk := 0) hx hb rfl (by decide +kernel)), ?_⟩
  refine List.forall_mem_cons.mpr ⟨pm_IO.go (ps_get hx hb hG in_Mo hown hK (ci := 7) rfl 3 (by decide +kernel) (hG _ wi_808) (fun _ h9 => h9) (by decide +kernel)), ?_⟩
  refine List.forall_mem_cons.mpr ⟨pm_IO.go (ps_iload_n (kk := 1) hx hb rfl (by decide +kernel)), ?_⟩
  refine List.forall_mem_cons.mpr ⟨pm_IO.go (ps_bipush hx hb (n := (59)) (v := (59)) (by decide +kernel) (by decide +kernel)), ?_⟩
  refine List.forall_mem_cons.mpr ⟨pm_IO.go (ps_bipush hx hb (n := (59)) (v := (59)) (by decide +kernel) (by decide +kernel)), ?_⟩
  refine List.forall_mem_cons.mpr ⟨pl_S hx hb hown (hG _ wi_999) (hG _ wi_1000) (hG _ wi_8) (sg_Mo_upTo hG) (nd_Mo_upTo hG) (by decide +kernel) (n := 4) (by decide +kernel) (cw_Mo_upTo hG) mi_Mo_upTo (by decide +kernel), ?_⟩
  refine List.forall_mem_cons.mpr ⟨pm_IO.go (ps_iconst hx hb (n := (1)) (v := (1)) (by decide +kernel) (by decide +kernel)), ?_⟩
  refine List.forall_mem_cons.mpr ⟨pm_IO.go (ps_iadd hx hb (by decide +kernel)), ?_⟩
  refine List.forall_mem_cons.mpr ⟨pm_IO.go (ps_istore_n (kk := 1) hx hb rfl (by decide +kernel)), ?_⟩
  refine List.forall_mem_cons.mpr ⟨pm_IO.go (ps_goto hx hb (off := -148) (by decide +kernel) (by decide +kernel)), ?_⟩
  refine List.forall_mem_cons.mpr ⟨pm_IO.fin fin_vret (ps_vret hx hb hr hlocks (by decide +kernel)), ?_⟩
  exact fun _ h => absurd h List.not_mem_nil
theorem ok_Mo_all (hl9 : l.stackTraces = false) : pm_Ok l (pj_KF D aC z sa) D pj_cl z b aC pj_xn pj_mi (pj_P xs L) 124 :=
  pm_okW (ret := (Option.none : Option Jvm.ClassFile.FieldType)) rfl rfl mi_Mo_all rfl mo_Mo_all (fun p e R s m args below meth c k0 s0 n0 hcx hno hF hz hf hlo => pm_B.tbl rfl (io_Mo_all hl9 hcx hno hF hz hf hlo) (fun pc x ls h H locs LS cells slots q ce rest hl hq hS hk hs hn hce hcv hcl => ⟨fun pc1 i hM => (nomatch (show (Sum.inr true : (Nat × Nat) ⊕ Bool) = .inl (pc1, i) from hM)), fun _ => pm_pass hno hcx.2.2.2.2.1 hq hS hk hs hce hcv hcl⟩))
end IO
