section IO
variable {p : Program} {l : Launch} {e : Env} {R : Room} {s : State} {m : MethodId} {args : Array Value} {below : List Frame} {meth : Method} {c : Code} {D : va_G} {z b : Nat} {aC : Nat → ClassId} {k0 s0 n0 : Nat} {sa : Nat → Nat} {xs : Nat → Int32} {L : Nat}
theorem mo_La_varies_ : ∀ q ∈ tb_La_varies, pm_MO q.2 := by
  unfold tb_La_varies
  refine List.forall_mem_cons.mpr ⟨pm_MO.go (mo_aload _ _), ?_⟩
  refine List.forall_mem_cons.mpr ⟨pm_MO.go (mo_c _ _), ?_⟩
  refine List.forall_mem_cons.mpr ⟨pm_MO.go (mo_aload _ _), ?_⟩
  refine List.forall_mem_cons.mpr ⟨pm_MO.go (mo_iload _ _), ?_⟩
  refine List.forall_mem_cons.mpr ⟨mo_callv _ _ _, ?_⟩
  refine List.forall_mem_cons.mpr ⟨pm_MO.go (mo_if _ _), ?_⟩
  refine List.forall_mem_cons.mpr ⟨pm_MO.go (mo_c _ _), ?_⟩
  refine List.forall_mem_cons.mpr ⟨pm_MO.go (mo_goto _), ?_⟩
  refine List.forall_mem_cons.mpr ⟨pm_MO.go (mo_c _ _), ?_⟩
  refine List.forall_mem_cons.mpr ⟨pm_MO.go (mo_last), ?_⟩
  refine List.forall_mem_cons.mpr ⟨pm_MO.go (mo_goto _), ?_⟩
  refine List.forall_mem_cons.mpr ⟨pm_MO.go (mo_astore _ _), ?_⟩
  refine List.forall_mem_cons.mpr ⟨pm_MO.go (mo_c _ _), ?_⟩
  refine List.forall_mem_cons.mpr ⟨pm_MO.fin fin_iret, ?_⟩
  refine List.forall_mem_cons.mpr ⟨pm_MO.go (mo_astore _ _), ?_⟩
  refine List.forall_mem_cons.mpr ⟨pm_MO.go (mo_c _ _), ?_⟩
  refine List.forall_mem_cons.mpr ⟨pm_MO.fin fin_iret, ?_⟩
  refine List.forall_mem_cons.mpr ⟨pm_MO.go (mo_c _ _), ?_⟩
  refine List.forall_mem_cons.mpr ⟨pm_MO.fin fin_iret, ?_⟩
  exact fun _ h => absurd h List.not_mem_nil
theorem mo_La_varies : pm_MO M_La_varies.1 := pm_MO.look mo_La_varies_
set_option maxHeartbeats 4000000 in
theorem io_La_varies (hl9 : l.stackTraces = false) (hcx : pm_cx p s m args meth c y_La_varies method_4_code 4 (Option.some Jvm.ClassFile.FieldType.int) w_La_varies) (hF : pj_KF D aC z sa s) (hz : z ≤ s.heap.size ∧ n0 ≤ k0 ∧ (n0 = k0 → s.heap.size = z + n0)) (hf : 8 ≤ R.frames) (hlo : 256 ≤ R.locals) : ∀ q ∈ tb_La_varies, pm_IO p l e R s m args below meth c D pj_cl z b aC k0 s0 n0 pj_mi (pm_Eo below D pj_cl z b aC pj_xn args s k0 s0) q := by
  obtain ⟨hx, hb, -, hr, hlocks, hname, hown, hts⟩ := hcx
  have hG : ∀ w ∈ pj_G, w.before args s = true := fun w h => hts w (List.mem_cons_of_mem _ h)
  have hK := hF.1
  have hAO := hF.2.1
  have hSt := hF.2.2.2.2.1
  unfold tb_La_varies
  refine List.forall_mem_cons.mpr ⟨pm_IO.go (ps_aload_n (kk := 2) hx hb rfl (by decide +kernel)), ?_⟩
  refine List.forall_mem_cons.mpr ⟨pm_IO.go (ps_iconst hx hb (n := (0)) (v := (0)) (by decide +kernel) (by decide +kernel)), ?_⟩
  refine List.forall_mem_cons.mpr ⟨pm_IO.go (ps_aload_n (kk := 0) hx hb rfl (by decide +kernel)), ?_⟩
  refine List.forall_mem_cons.mpr ⟨pm_IO.go (ps_iload_n (kk := 1) hx hb rfl (by decide +kernel)), ?_⟩
  refine List.forall_mem_cons.mpr ⟨pl_V hx hb hown (hG _ wi_515) (hG _ wi_516) (hG _ wi_517) (sg_De_varies hG) (by decide +kernel) hK (ci := 0) rfl rfl (n := 1) (by decide +kernel) (cw_De_varies hG) mi_De_varies (by decide +kernel), ?_⟩
  refine List.forall_mem_cons.mpr ⟨pm_IO.go (ps_if_eq hx hb (off := 7) (by decide +kernel) (by decide +kernel)), ?_⟩
  refine List.forall_mem_cons.mpr ⟨pm_IO.go (ps_lconst hx hb (n := 1) (v := 1) (by decide +kernel) (by decide +kernel)), ?_⟩
  refine List.forall_mem_cons.mpr ⟨pm_IO.go (ps_goto hx hb (off := 4) (by decide +kernel) (by decide +kernel)), ?_⟩
  refine List.forall_mem_cons.mpr ⟨pm_IO.go (ps_lconst hx hb (n := 0) (v := 0) (by decide +kernel) (by decide +kernel)), ?_⟩
  refine List.forall_mem_cons.mpr ⟨pm_IO.go (ps_last hx hb hK 1 rfl (by decide +kernel)), ?_⟩
  refine List.forall_mem_cons.mpr ⟨pm_IO.go (ps_goto hx hb (off := 9) (by decide +kernel) (by decide +kernel)), ?_⟩
  refine List.forall_mem_cons.mpr ⟨pm_IO.go (ps_astore_n (kk := 3) hx hb rfl (by decide +kernel)), ?_⟩
  refine List.forall_mem_cons.mpr ⟨pm_IO.go (ps_iconst hx hb (n := (1)) (v := (1)) (by decide +kernel) (by decide +kernel)), ?_⟩
  refine List.forall_mem_cons.mpr ⟨pm_IO.fin fin_iret (ps_iret hx hb hr hlocks (by decide +kernel)), ?_⟩
  refine List.forall_mem_cons.mpr ⟨pm_IO.go (ps_astore_n (kk := 3) hx hb rfl (by decide +kernel)), ?_⟩
  refine List.forall_mem_cons.mpr ⟨pm_IO.go (ps_iconst hx hb (n := (2)) (v := (2)) (by decide +kernel) (by decide +kernel)), ?_⟩
  refine List.forall_mem_cons.mpr ⟨pm_IO.fin fin_iret (ps_iret hx hb hr hlocks (by decide +kernel)), ?_⟩
  refine List.forall_mem_cons.mpr ⟨pm_IO.go (ps_iconst hx hb (n := (0)) (v := (0)) (by decide +kernel) (by decide +kernel)), ?_⟩
  refine List.forall_mem_cons.mpr ⟨pm_IO.fin fin_iret (ps_iret hx hb hr hlocks (by decide +kernel)), ?_⟩
  exact fun _ h => absurd h List.not_mem_nil
set_option maxHeartbeats 4000000 in
theorem hx_La_varies (hcx : pm_cx p s m args meth c y_La_varies method_4_code 4 (Option.some Jvm.ClassFile.FieldType.int) w_La_varies) (hh : c.exceptionTable.toList.map (fun h => (h.startPc, h.endPc, h.handlerPc, h.catchType)) = [((0 : Nat), (16 : Nat), (19 : Nat), (15 : Nat)), ((0 : Nat), (16 : Nat), (22 : Nat), (13 : Nat))]) (hF : pj_KF D aC z sa s) {E : pm_O → State → Prop} : ∀ (pc x : Nat) (ls : pm_L) (h : pm_H) (H : Heap) (locs : List Loc) (LS : Array Slot) (cells slots : Nat) (q : Addr) (ce : Cell) (rest : List Value), pm_LV z b c.maxLocals LS ls → pm_Q D pj_cl z b aC h H → va_S (fun q : Nat => z ≤ q) s.heap H locs → k0 + cells = h.2.1 → s0 + slots = h.2.2.1 → h.1 + k0 ≤ n0 + h.2.1 → H[q]? = some ce → ce.vm = .none → s.vm.findClass (pj_xn x) = some ce.cls →
      (∀ pc1 i : Nat, M_La_varies.2.2 pc x = .inl (pc1, i) → ∀ Q : State → Prop, pm_W p l e R s m args below meth c D pj_cl z b aC k0 s0 n0 Q (pc1, ls.map (fun _ => none), [], h) → px_X p l e R s m args below meth c H locs cells slots Q (F0 m pc LS rest) q) ∧ (M_La_varies.2.2 pc x = .inr true → px_X p l e R s m args below meth c H locs cells slots (E (.inr x, h)) (F0 m pc LS rest) q) := by
  intro pc x ls h H locs LS cells slots q ce rest hl hq hS hk hs hn hce hcv hcl
  obtain ⟨hx, hb, hml, hr, hlocks, hname, hown, hts⟩ := hcx
  have hG : ∀ w ∈ pj_G, w.before args s = true := fun w h => hts w (List.mem_cons_of_mem _ h)
  obtain ⟨x0, t0, e0, f0, g0⟩ := List.map_eq_cons_iff.mp hh
  obtain ⟨x1, t1, e1, f1, g1⟩ := List.map_eq_cons_iff.mp g0
  have g9 := List.map_eq_nil_iff.mp g1
  subst g9
  subst e1
  obtain ⟨a0, b0, c0, d0⟩ := pj_row f0
  obtain ⟨a1, b1, c1, d1⟩ := pj_row f1
  refine ⟨fun pc1 i hM Q kk => ?_, fun hM => (pm_cat_no hM).elim⟩
  rcases pm_cat_cons hM with ⟨w1, w2, rfl, rfl, rfl⟩ | hM
  · exact px_catch (name := "java/lang/IllegalStateException") hown [] x0 [x1] e0 (fun z9 hz9 => nomatch hz9) (pj_cov a0 b0 w1 w2) (by rw [d0]; decide) (by rw [d0]; exact hG _ (pj_in 481 (by decide +kernel) (by decide +kernel))) (ca_1 hF) hce hcv hcl (by rw [c0]; exact pj_hand (i := 3) hx hb (Or.inl ⟨3, rfl, by decide +kernel, rfl⟩) (by rw [hml]; decide) hl hq hS hk hs hn kk)
  rcases pm_cat_cons hM with ⟨w1, w2, rfl, rfl, rfl⟩ | hM
  · exact px_catch (name := "java/lang/IllegalArgumentException") hown [x0] x1 [] e0 (List.forall_mem_cons.mpr ⟨⟨by rw [d0]; decide, "java/lang/IllegalStateException", by rw [d0]; exact hG _ (pj_in 481 (by decide +kernel) (by decide +kernel)), hF.2.2.2.2.2.2 ("java/lang/IllegalArgumentException", "java/lang/IllegalStateException") (by decide)⟩, fun _ h9 => absurd h9 List.not_mem_nil⟩) (pj_cov a1 b1 w1 w2) (by rw [d1]; decide) (by rw [d1]; exact hG _ (pj_in 480 (by decide +kernel) (by decide +kernel))) (ca_0 hF) hce hcv hcl (by rw [c1]; exact pj_hand (i := 3) hx hb (Or.inl ⟨3, rfl, by decide +kernel, rfl⟩) (by rw [hml]; decide) hl hq hS hk hs hn kk)
  exact nomatch (show (Sum.inr false : (Nat × Nat) ⊕ Bool) = .inl (pc1, i) from hM)
theorem ok_La_varies (hl9 : l.stackTraces = false) : pm_Ok l (pj_KF D aC z sa) D pj_cl z b aC pj_xn pj_mi (pj_P xs L) 156 :=
  pm_okC (ret := (Option.some Jvm.ClassFile.FieldType.int)) rfl rfl mi_La_varies rfl mo_La_varies (fun p e R s m args below meth c k0 s0 n0 hcx hh hF hz hf hlo => pm_B.tbl rfl (io_La_varies hl9 hcx hF hz hf hlo) (hx_La_varies hcx hh hF))
theorem mo_La_input_ : ∀ q ∈ tb_La_input, pm_MO q.2 := by
  unfold tb_La_input
  refine List.forall_mem_cons.mpr ⟨pm_MO.go (mo_aload _ _), ?_⟩
  refine List.forall_mem_cons.mpr ⟨pm_MO.go (mo_iload _ _), ?_⟩
  refine List.forall_mem_cons.mpr ⟨pm_MO.go (mo_iload _ _), ?_⟩
  refine List.forall_mem_cons.mpr ⟨mo_callv _ _ _, ?_⟩
  refine List.forall_mem_cons.mpr ⟨pm_MO.go (mo_goto _), ?_⟩
  refine List.forall_mem_cons.mpr ⟨pm_MO.go (mo_astore _ _), ?_⟩
  refine List.forall_mem_cons.mpr ⟨pm_MO.go (mo_c _ _), ?_⟩
  refine List.forall_mem_cons.mpr ⟨pm_MO.fin fin_iret, ?_⟩
  refine List.forall_mem_cons.mpr ⟨pm_MO.go (mo_astore _ _), ?_⟩
  refine List.forall_mem_cons.mpr ⟨pm_MO.go (mo_c _ _), ?_⟩
  refine List.forall_mem_cons.mpr ⟨pm_MO.fin fin_iret, ?_⟩
  refine List.forall_mem_cons.mpr ⟨pm_MO.go (mo_c _ _), ?_⟩
  refine List.forall_mem_cons.mpr ⟨pm_MO.fin fin_iret, ?_⟩
  exact fun _ h => absurd h List.not_mem_nil
theorem mo_La_input : pm_MO M_La_input.1 := pm_MO.look mo_La_input_
set_option maxHeartbeats 4000000 in
theorem io_La_input (hl9 : l.stackTraces = false) (hcx : pm_cx p s m args meth c y_La_input method_5_code 4 (Option.some Jvm.ClassFile.FieldType.int) w_La_input) (hF : pj_KF D aC z sa s) (hz : z ≤ s.heap.size ∧ n0 ≤ k0 ∧ (n0 = k0 → s.heap.size = z + n0)) (hf : 8 ≤ R.frames) (hlo : 256 ≤ R.locals) : ∀ q ∈ tb_La_input, pm_IO p l e R s m args below meth c D pj_cl z b aC k0 s0 n0 pj_mi (pm_Eo below D pj_cl z b aC pj_xn args s k0 s0) q := by
  obtain ⟨hx, hb, -, hr, hlocks, hname, hown, hts⟩ := hcx
  have hG : ∀ w ∈ pj_G, w.before args s = true := fun w h => hts w (List.mem_cons_of_mem _ h)
  have hK := hF.1
  have hAO := hF.2.1
  have hSt := hF.2.2.2.2.1
  unfold tb_La_input
  refine List.forall_mem_cons.mpr ⟨pm_IO.go (ps_aload_n (kk := 0) hx hb rfl (by decide +kernel)), ?_⟩
  refine List.forall_mem_cons.mpr ⟨pm_IO.go (ps_iload_n (kk := 1) hx hb rfl (by decide +kernel)), ?_⟩
  refine List.forall_mem_cons.mpr ⟨pm_IO.go (ps_iload_n (kk := 2) hx hb rfl (by decide +kernel)), ?_⟩
  refine List.forall_mem_cons.mpr ⟨pl_V hx hb hown (hG _ wi_531) (hG _ wi_532) (hG _ wi_533) (sg_De_input hG) (by decide +kernel) hK (ci := 0) rfl rfl (n := 2) (by decide +kernel) (cw_De_input hG) mi_De_input (by decide +kernel), ?_⟩
  refine List.forall_mem_cons.mpr ⟨pm_IO.go (ps_goto hx hb (off := 9) (by decide +kernel) (by decide +kernel)), ?_⟩
  refine List.forall_mem_cons.mpr ⟨pm_IO.go (ps_astore_n (kk := 3) hx hb rfl (by decide +kernel)), ?_⟩
  refine List.forall_mem_cons.mpr ⟨pm_IO.go (ps_iconst hx hb (n := (1)) (v := (1)) (by decide +kernel) (by decide +kernel)), ?_⟩
  refine List.forall_mem_cons.mpr ⟨pm_IO.fin fin_iret (ps_iret hx hb hr hlocks (by decide +kernel)), ?_⟩
  refine List.forall_mem_cons.mpr ⟨pm_IO.go (ps_astore_n (kk := 3) hx hb rfl (by decide +kernel)), ?_⟩
  refine List.forall_mem_cons.mpr ⟨pm_IO.go (ps_iconst hx hb (n := (2)) (v := (2)) (by decide +kernel) (by decide +kernel)), ?_⟩
  refine List.forall_mem_cons.mpr ⟨pm_IO.fin fin_iret (ps_iret hx hb hr hlocks (by decide +kernel)), ?_⟩
  refine List.forall_mem_cons.mpr ⟨pm_IO.go (ps_iconst hx hb (n := (0)) (v := (0)) (by decide +kernel) (by decide +kernel)), ?_⟩
  refine List.forall_mem_cons.mpr ⟨pm_IO.fin fin_iret (ps_iret hx hb hr hlocks (by decide +kernel)), ?_⟩
  exact fun _ h => absurd h List.not_mem_nil
set_option maxHeartbeats 4000000 in
theorem hx_La_input (hcx : pm_cx p s m args meth c y_La_input method_5_code 4 (Option.some Jvm.ClassFile.FieldType.int) w_La_input) (hh : c.exceptionTable.toList.map (fun h => (h.startPc, h.endPc, h.handlerPc, h.catchType)) = [((0 : Nat), (6 : Nat), (9 : Nat), (13 : Nat)), ((0 : Nat), (6 : Nat), (12 : Nat), (15 : Nat))]) (hF : pj_KF D aC z sa s) {E : pm_O → State → Prop} : ∀ (pc x : Nat) (ls : pm_L) (h : pm_H) (H : Heap) (locs : List Loc) (LS : Array Slot) (cells slots : Nat) (q : Addr) (ce : Cell) (rest : List Value), pm_LV z b c.maxLocals LS ls → pm_Q D pj_cl z b aC h H → va_S (fun q : Nat => z ≤ q) s.heap H locs → k0 + cells = h.2.1 → s0 + slots = h.2.2.1 → h.1 + k0 ≤ n0 + h.2.1 → H[q]? = some ce → ce.vm = .none → s.vm.findClass (pj_xn x) = some ce.cls →
      (∀ pc1 i : Nat, M_La_input.2.2 pc x = .inl (pc1, i) → ∀ Q : State → Prop, pm_W p l e R s m args below meth c D pj_cl z b aC k0 s0 n0 Q (pc1, ls.map (fun _ => none), [], h) → px_X p l e R s m args below meth c H locs cells slots Q (F0 m pc LS rest) q) ∧ (M_La_input.2.2 pc x = .inr true → px_X p l e R s m args below meth c H locs cells slots (E (.inr x, h)) (F0 m pc LS rest) q) := by
  intro pc x ls h H locs LS cells slots q ce rest hl hq hS hk hs hn hce hcv hcl
  obtain ⟨hx, hb, hml, hr, hlocks, hname, hown, hts⟩ := hcx
  have hG : ∀ w ∈ pj_G, w.before args s = true := fun w h => hts w (List.mem_cons_of_mem _ h)
  obtain ⟨x0, t0, e0, f0, g0⟩ := List.map_eq_cons_iff.mp hh
  obtain ⟨x1, t1, e1, f1, g1⟩ := List.map_eq_cons_iff.mp g0
  have g9 := List.map_eq_nil_iff.mp g1
  subst g9
  subst e1
  obtain ⟨a0, b0, c0, d0⟩ := pj_row f0
  obtain ⟨a1, b1, c1, d1⟩ := pj_row f1
  refine ⟨fun pc1 i hM Q kk => ?_, fun hM => (pm_cat_no hM).elim⟩
  rcases pm_cat_cons hM with ⟨w1, w2, rfl, rfl, rfl⟩ | hM
  · exact px_catch (name := "java/lang/IllegalArgumentException") hown [] x0 [x1] e0 (fun z9 hz9 => nomatch hz9) (pj_cov a0 b0 w1 w2) (by rw [d0]; decide) (by rw [d0]; exact hG _ (pj_in 480 (by decide +kernel) (by decide +kernel))) (ca_0 hF) hce hcv hcl (by rw [c0]; exact pj_hand (i := 3) hx hb (Or.inl ⟨3, rfl, by decide +kernel, rfl⟩) (by rw [hml]; decide) hl hq hS hk hs hn kk)
  rcases pm_cat_cons hM with ⟨w1, w2, rfl, rfl, rfl⟩ | hM
  · exact px_catch (name := "java/lang/IllegalStateException") hown [x0] x1 [] e0 (List.forall_mem_cons.mpr ⟨⟨by rw [d0]; decide, "java/lang/IllegalArgumentException", by rw [d0]; exact hG _ (pj_in 480 (by decide +kernel) (by decide +kernel)), hF.2.2.2.2.2.2 ("java/lang/IllegalStateException", "java/lang/IllegalArgumentException") (by decide)⟩, fun _ h9 => absurd h9 List.not_mem_nil⟩) (pj_cov a1 b1 w1 w2) (by rw [d1]; decide) (by rw [d1]; exact hG _ (pj_in 481 (by decide +kernel) (by decide +kernel))) (ca_1 hF) hce hcv hcl (by rw [c1]; exact pj_hand (i := 3) hx hb (Or.inl ⟨3, rfl, by decide +kernel, rfl⟩) (by rw [hml]; decide) hl hq hS hk hs hn kk)
  exact nomatch (show (Sum.inr false : (Nat × Nat) ⊕ Bool) = .inl (pc1, i) from hM)
theorem ok_La_input (hl9 : l.stackTraces = false) : pm_Ok l (pj_KF D aC z sa) D pj_cl z b aC pj_xn pj_mi (pj_P xs L) 157 :=
  pm_okC (ret := (Option.some Jvm.ClassFile.FieldType.int)) rfl rfl mi_La_input rfl mo_La_input (fun p e R s m args below meth c k0 s0 n0 hcx hh hF hz hf hlo => pm_B.tbl rfl (io_La_input hl9 hcx hF hz hf hlo) (hx_La_input hcx hh hF))
theorem mo_La_lanes_ : ∀ q ∈ tb_La_lanes, pm_MO q.2 := by
  unfold tb_La_lanes
  refine List.forall_mem_cons.mpr ⟨pm_MO.go (mo_aload _ _), ?_⟩
  refine List.forall_mem_cons.mpr ⟨pm_MO.go (mo_iload _ _), ?_⟩
  refine List.forall_mem_cons.mpr ⟨mo_callv _ _ _, ?_⟩
  refine List.forall_mem_cons.mpr ⟨pm_MO.go (mo_goto _), ?_⟩
  refine List.forall_mem_cons.mpr ⟨pm_MO.go (mo_astore _ _), ?_⟩
  refine List.forall_mem_cons.mpr ⟨pm_MO.go (mo_c _ _), ?_⟩
  refine List.forall_mem_cons.mpr ⟨pm_MO.fin fin_iret, ?_⟩
  refine List.forall_mem_cons.mpr ⟨pm_MO.go (mo_astore _ _), ?_⟩
  refine List.forall_mem_cons.mpr ⟨pm_MO.go (mo_c _ _), ?_⟩
  refine List.forall_mem_cons.mpr ⟨pm_MO.fin fin_iret, ?_⟩
  refine List.forall_mem_cons.mpr ⟨pm_MO.go (mo_c _ _), ?_⟩
  refine List.forall_mem_cons.mpr ⟨pm_MO.fin fin_iret, ?_⟩
  exact fun _ h => absurd h List.not_mem_nil
theorem mo_La_lanes : pm_MO M_La_lanes.1 := pm_MO.look mo_La_lanes_
set_option maxHeartbeats 4000000 in
theorem io_La_lanes (hl9 : l.stackTraces = false) (hcx : pm_cx p s m args meth c y_La_lanes method_6_code 3 (Option.some Jvm.ClassFile.FieldType.int) w_La_lanes) (hF : pj_KF D aC z sa s) (hz : z ≤ s.heap.size ∧ n0 ≤ k0 ∧ (n0 = k0 → s.heap.size = z + n0)) (hf : 8 ≤ R.frames) (hlo : 256 ≤ R.locals) : ∀ q ∈ tb_La_lanes, pm_IO p l e R s m args below meth c D pj_cl z b aC k0 s0 n0 pj_mi (pm_Eo below D pj_cl z b aC pj_xn args s k0 s0) q := by
  obtain ⟨hx, hb, -, hr, hlocks, hname, hown, hts⟩ := hcx
  have hG : ∀ w ∈ pj_G, w.before args s = true := fun w h => hts w (List.mem_cons_of_mem _ h)
  have hK := hF.1
  have hAO := hF.2.1
  have hSt := hF.2.2.2.2.1
  unfold tb_La_lanes
  refine List.forall_mem_cons.mpr ⟨pm_IO.go (ps_aload_n (kk := 0) hx hb rfl (by decide +kernel)), ?_⟩
  refine List.forall_mem_cons.mpr ⟨pm_IO.go (ps_iload_n (kk := 1) hx hb rfl (by decide +kernel)), ?_⟩
  refine List.forall_mem_cons.mpr ⟨pl_V hx hb hown (hG _ wi_544) (hG _ wi_545) (hG _ wi_546) (sg_De_lanes hG) (by decide +kernel) hK (ci := 0) rfl rfl (n := 1) (by decide +kernel) (cw_De_lanes hG) mi_De_lanes (by decide +kernel), ?_⟩
  refine List.forall_mem_cons.mpr ⟨pm_IO.go (ps_goto hx hb (off := 9) (by decide +kernel) (by decide +kernel)), ?_⟩
  refine List.forall_mem_cons.mpr ⟨pm_IO.go (ps_astore_n (kk := 2) hx hb rfl (by decide +kernel)), ?_⟩
  refine List.forall_mem_cons.mpr ⟨pm_IO.go (ps_iconst hx hb (n := (1)) (v := (1)) (by decide +kernel) (by decide +kernel)), ?_⟩
  refine List.forall_mem_cons.mpr ⟨pm_IO.fin fin_iret (ps_iret hx hb hr hlocks (by decide +kernel)), ?_⟩
  refine List.forall_mem_cons.mpr ⟨pm_IO.go (ps_astore_n (kk := 2) hx hb rfl (by decide +kernel)), ?_⟩
  refine List.forall_mem_cons.mpr ⟨pm_IO.go (ps_iconst hx hb (n := (2)) (v := (2)) (by decide +kernel) (by decide +kernel)), ?_⟩
  refine List.forall_mem_cons.mpr ⟨pm_IO.fin fin_iret (ps_iret hx hb hr hlocks (by decide +kernel)), ?_⟩
  refine List.forall_mem_cons.mpr ⟨pm_IO.go (ps_iconst hx hb (n := (0)) (v := (0)) (by decide +kernel) (by decide +kernel)), ?_⟩
  refine List.forall_mem_cons.mpr ⟨pm_IO.fin fin_iret (ps_iret hx hb hr hlocks (by decide +kernel)), ?_⟩
  exact fun _ h => absurd h List.not_mem_nil
set_option maxHeartbeats 4000000 in
theorem hx_La_lanes (hcx : pm_cx p s m args meth c y_La_lanes method_6_code 3 (Option.some Jvm.ClassFile.FieldType.int) w_La_lanes) (hh : c.exceptionTable.toList.map (fun h => (h.startPc, h.endPc, h.handlerPc, h.catchType)) = [((0 : Nat), (5 : Nat), (8 : Nat), (13 : Nat)), ((0 : Nat), (5 : Nat), (11 : Nat), (15 : Nat))]) (hF : pj_KF D aC z sa s) {E : pm_O → State → Prop} : ∀ (pc x : Nat) (ls : pm_L) (h : pm_H) (H : Heap) (locs : List Loc) (LS : Array Slot) (cells slots : Nat) (q : Addr) (ce : Cell) (rest : List Value), pm_LV z b c.maxLocals LS ls → pm_Q D pj_cl z b aC h H → va_S (fun q : Nat => z ≤ q) s.heap H locs → k0 + cells = h.2.1 → s0 + slots = h.2.2.1 → h.1 + k0 ≤ n0 + h.2.1 → H[q]? = some ce → ce.vm = .none → s.vm.findClass (pj_xn x) = some ce.cls →
      (∀ pc1 i : Nat, M_La_lanes.2.2 pc x = .inl (pc1, i) → ∀ Q : State → Prop, pm_W p l e R s m args below meth c D pj_cl z b aC k0 s0 n0 Q (pc1, ls.map (fun _ => none), [], h) → px_X p l e R s m args below meth c H locs cells slots Q (F0 m pc LS rest) q) ∧ (M_La_lanes.2.2 pc x = .inr true → px_X p l e R s m args below meth c H locs cells slots (E (.inr x, h)) (F0 m pc LS rest) q) := by
  intro pc x ls h H locs LS cells slots q ce rest hl hq hS hk hs hn hce hcv hcl
  obtain ⟨hx, hb, hml, hr, hlocks, hname, hown, hts⟩ := hcx
  have hG : ∀ w ∈ pj_G, w.before args s = true := fun w h => hts w (List.mem_cons_of_mem _ h)
  obtain ⟨x0, t0, e0, f0, g0⟩ := List.map_eq_cons_iff.mp hh
  obtain ⟨x1, t1, e1, f1, g1⟩ := List.map_eq_cons_iff.mp g0
  have g9 := List.map_eq_nil_iff.mp g1
  subst g9
  subst e1
  obtain ⟨a0, b0, c0, d0⟩ := pj_row f0
  obtain ⟨a1, b1, c1, d1⟩ := pj_row f1
  refine ⟨fun pc1 i hM Q kk => ?_, fun hM => (pm_cat_no hM).elim⟩
  rcases pm_cat_cons hM with ⟨w1, w2, rfl, rfl, rfl⟩ | hM
  · exact px_catch (name := "java/lang/IllegalArgumentException") hown [] x0 [x1] e0 (fun z9 hz9 => nomatch hz9) (pj_cov a0 b0 w1 w2) (by rw [d0]; decide) (by rw [d0]; exact hG _ (pj_in 480 (by decide +kernel) (by decide +kernel))) (ca_0 hF) hce hcv hcl (by rw [c0]; exact pj_hand (i := 2) hx hb (Or.inl ⟨2, rfl, by decide +kernel, rfl⟩) (by rw [hml]; decide) hl hq hS hk hs hn kk)
  rcases pm_cat_cons hM with ⟨w1, w2, rfl, rfl, rfl⟩ | hM
  · exact px_catch (name := "java/lang/IllegalStateException") hown [x0] x1 [] e0 (List.forall_mem_cons.mpr ⟨⟨by rw [d0]; decide, "java/lang/IllegalArgumentException", by rw [d0]; exact hG _ (pj_in 480 (by decide +kernel) (by decide +kernel)), hF.2.2.2.2.2.2 ("java/lang/IllegalStateException", "java/lang/IllegalArgumentException") (by decide)⟩, fun _ h9 => absurd h9 List.not_mem_nil⟩) (pj_cov a1 b1 w1 w2) (by rw [d1]; decide) (by rw [d1]; exact hG _ (pj_in 481 (by decide +kernel) (by decide +kernel))) (ca_1 hF) hce hcv hcl (by rw [c1]; exact pj_hand (i := 2) hx hb (Or.inl ⟨2, rfl, by decide +kernel, rfl⟩) (by rw [hml]; decide) hl hq hS hk hs hn kk)
  exact nomatch (show (Sum.inr false : (Nat × Nat) ⊕ Bool) = .inl (pc1, i) from hM)
theorem ok_La_lanes (hl9 : l.stackTraces = false) : pm_Ok l (pj_KF D aC z sa) D pj_cl z b aC pj_xn pj_mi (pj_P xs L) 158 :=
  pm_okC (ret := (Option.some Jvm.ClassFile.FieldType.int)) rfl rfl mi_La_lanes rfl mo_La_lanes (fun p e R s m args below meth c k0 s0 n0 hcx hh hF hz hf hlo => pm_B.tbl rfl (io_La_lanes hl9 hcx hF hz hf hlo) (hx_La_lanes hcx hh hF))
theorem mo_La_start_ : ∀ q ∈ tb_La_start, pm_MO q.2 := by
  unfold tb_La_start
  refine List.forall_mem_cons.mpr ⟨pm_MO.go (mo_aload _ _), ?_⟩
  refine List.forall_mem_cons.mpr ⟨mo_callv _ _ _, ?_⟩
  refine List.forall_mem_cons.mpr ⟨pm_MO.go (mo_goto _), ?_⟩
  refine List.forall_mem_cons.mpr ⟨pm_MO.go (mo_astore _ _), ?_⟩
  refine List.forall_mem_cons.mpr ⟨pm_MO.go (mo_c _ _), ?_⟩
  refine List.forall_mem_cons.mpr ⟨pm_MO.fin fin_iret, ?_⟩
  refine List.forall_mem_cons.mpr ⟨pm_MO.go (mo_c _ _), ?_⟩
  refine List.forall_mem_cons.mpr ⟨pm_MO.fin fin_iret, ?_⟩
  exact fun _ h => absurd h List.not_mem_nil
theorem mo_La_start : pm_MO M_La_start.1 := pm_MO.look mo_La_start_
set_option maxHeartbeats 4000000 in
theorem io_La_start (hl9 : l.stackTraces = false) (hcx : pm_cx p s m args meth c y_La_start method_7_code 2 (Option.some Jvm.ClassFile.FieldType.int) w_La_start) (hF : pj_KF D aC z sa s) (hz : z ≤ s.heap.size ∧ n0 ≤ k0 ∧ (n0 = k0 → s.heap.size = z + n0)) (hf : 8 ≤ R.frames) (hlo : 256 ≤ R.locals) : ∀ q ∈ tb_La_start, pm_IO p l e R s m args below meth c D pj_cl z b aC k0 s0 n0 pj_mi (pm_Eo below D pj_cl z b aC pj_xn args s k0 s0) q := by
  obtain ⟨hx, hb, -, hr, hlocks, hname, hown, hts⟩ := hcx
  have hG : ∀ w ∈ pj_G, w.before args s = true := fun w h => hts w (List.mem_cons_of_mem _ h)
  have hK := hF.1
  have hAO := hF.2.1
  have hSt := hF.2.2.2.2.1
  unfold tb_La_start
  refine List.forall_mem_cons.mpr ⟨pm_IO.go (ps_aload_n (kk := 0) hx hb rfl (by decide +kernel)), ?_⟩
  refine List.forall_mem_cons.mpr ⟨pl_V hx hb hown (hG _ wi_552) (hG _ wi_553) (hG _ wi_554) (sg_De_start hG) (by decide +kernel) hK (ci := 0) rfl rfl (n := 0) (by decide +kernel) (cw_De_start hG) mi_De_start (by decide +kernel), ?_⟩
  refine List.forall_mem_cons.mpr ⟨pm_IO.go (ps_goto hx hb (off := 6) (by decide +kernel) (by decide +kernel)), ?_⟩
  refine List.forall_mem_cons.mpr ⟨pm_IO.go (ps_astore_n (kk := 1) hx hb rfl (by decide +kernel)), ?_⟩
  refine List.forall_mem_cons.mpr ⟨pm_IO.go (ps_iconst hx hb (n := (1)) (v := (1)) (by decide +kernel) (by decide +kernel)), ?_⟩
  refine List.forall_mem_cons.mpr ⟨pm_IO.fin fin_iret (ps_iret hx hb hr hlocks (by decide +kernel)), ?_⟩
  refine List.forall_mem_cons.mpr ⟨pm_IO.go (ps_iconst hx hb (n := (0)) (v := (0)) (by decide +kernel) (by decide +kernel)), ?_⟩
  refine List.forall_mem_cons.mpr ⟨pm_IO.fin fin_iret (ps_iret hx hb hr hlocks (by decide +kernel)), ?_⟩
  exact fun _ h => absurd h List.not_mem_nil
set_option maxHeartbeats 4000000 in
theorem hx_La_start (hcx : pm_cx p s m args meth c y_La_start method_7_code 2 (Option.some Jvm.ClassFile.FieldType.int) w_La_start) (hh : c.exceptionTable.toList.map (fun h => (h.startPc, h.endPc, h.handlerPc, h.catchType)) = [((0 : Nat), (4 : Nat), (7 : Nat), (15 : Nat))]) (hF : pj_KF D aC z sa s) {E : pm_O → State → Prop} : ∀ (pc x : Nat) (ls : pm_L) (h : pm_H) (H : Heap) (locs : List Loc) (LS : Array Slot) (cells slots : Nat) (q : Addr) (ce : Cell) (rest : List Value), pm_LV z b c.maxLocals LS ls → pm_Q D pj_cl z b aC h H → va_S (fun q : Nat => z ≤ q) s.heap H locs → k0 + cells = h.2.1 → s0 + slots = h.2.2.1 → h.1 + k0 ≤ n0 + h.2.1 → H[q]? = some ce → ce.vm = .none → s.vm.findClass (pj_xn x) = some ce.cls →
      (∀ pc1 i : Nat, M_La_start.2.2 pc x = .inl (pc1, i) → ∀ Q : State → Prop, pm_W p l e R s m args below meth c D pj_cl z b aC k0 s0 n0 Q (pc1, ls.map (fun _ => none), [], h) → px_X p l e R s m args below meth c H locs cells slots Q (F0 m pc LS rest) q) ∧ (M_La_start.2.2 pc x = .inr true → px_X p l e R s m args below meth c H locs cells slots (E (.inr x, h)) (F0 m pc LS rest) q) := by
  intro pc x ls h H locs LS cells slots q ce rest hl hq hS hk hs hn hce hcv hcl
  obtain ⟨hx, hb, hml, hr, hlocks, hname, hown, hts⟩ := hcx
  have hG : ∀ w ∈ pj_G, w.before args s = true := fun w h => hts w (List.mem_cons_of_mem _ h)
  obtain ⟨x0, t0, e0, f0, g0⟩ := List.map_eq_cons_iff.mp hh
  have g9 := List.map_eq_nil_iff.mp g0
  subst g9
  obtain ⟨a0, b0, c0, d0⟩ := pj_row f0
  refine ⟨fun pc1 i hM Q kk => ?_, fun hM => (pm_cat_no hM).elim⟩
  rcases pm_cat_cons hM with ⟨w1, w2, rfl, rfl, rfl⟩ | hM
  · exact px_catch (name := "java/lang/IllegalStateException") hown [] x0 [] e0 (fun z9 hz9 => nomatch hz9) (pj_cov a0 b0 w1 w2) (by rw [d0]; decide) (by rw [d0]; exact hG _ (pj_in 481 (by decide +kernel) (by decide +kernel))) (ca_1 hF) hce hcv hcl (by rw [c0]; exact pj_hand (i := 1) hx hb (Or.inl ⟨1, rfl, by decide +kernel, rfl⟩) (by rw [hml]; decide) hl hq hS hk hs hn kk)
  exact nomatch (show (Sum.inr false : (Nat × Nat) ⊕ Bool) = .inl (pc1, i) from hM)
theorem ok_La_start (hl9 : l.stackTraces = false) : pm_Ok l (pj_KF D aC z sa) D pj_cl z b aC pj_xn pj_mi (pj_P xs L) 159 :=
  pm_okC (ret := (Option.some Jvm.ClassFile.FieldType.int)) rfl rfl mi_La_start rfl mo_La_start (fun p e R s m args below meth c k0 s0 n0 hcx hh hF hz hf hlo => pm_B.tbl rfl (io_La_start hl9 hcx hF hz hf hlo) (hx_La_start hcx hh hF))
theorem mo_La_run_ : ∀ q ∈ tb_La_run, pm_MO q.2 := by
  unfold tb_La_run
  refine List.forall_mem_cons.mpr ⟨pm_MO.go (mo_aload _ _), ?_⟩
  refine List.forall_mem_cons.mpr ⟨pm_MO.go (mo_c _ _), ?_⟩
  refine List.forall_mem_cons.mpr ⟨pm_MO.go (mo_aload _ _), ?_⟩
  refine List.forall_mem_cons.mpr ⟨pm_MO.go (mo_iload _ _), ?_⟩
  refine List.forall_mem_cons.mpr ⟨mo_callv _ _ _, ?_⟩
  refine List.forall_mem_cons.mpr ⟨pm_MO.go (mo_il _), ?_⟩
  refine List.forall_mem_cons.mpr ⟨pm_MO.go (mo_last), ?_⟩
  refine List.forall_mem_cons.mpr ⟨pm_MO.go (mo_goto _), ?_⟩
  refine List.forall_mem_cons.mpr ⟨pm_MO.go (mo_astore _ _), ?_⟩
  refine List.forall_mem_cons.mpr ⟨pm_MO.go (mo_c _ _), ?_⟩
  refine List.forall_mem_cons.mpr ⟨pm_MO.fin fin_iret, ?_⟩
  refine List.forall_mem_cons.mpr ⟨pm_MO.go (mo_astore _ _), ?_⟩
  refine List.forall_mem_cons.mpr ⟨pm_MO.go (mo_c _ _), ?_⟩
  refine List.forall_mem_cons.mpr ⟨pm_MO.fin fin_iret, ?_⟩
  refine List.forall_mem_cons.mpr ⟨pm_MO.go (mo_c _ _), ?_⟩
  refine List.forall_mem_cons.mpr ⟨pm_MO.fin fin_iret, ?_⟩
  exact fun _ h => absurd h List.not_mem_nil
theorem mo_La_run : pm_MO M_La_run.1 := pm_MO.look mo_La_run_
set_option maxHeartbeats 4000000 in
theorem io_La_run (hl9 : l.stackTraces = false) (hcx : pm_cx p s m args meth c y_La_run method_8_code 4 (Option.some Jvm.ClassFile.FieldType.int) w_La_run) (hF : pj_KF D aC z sa s) (hz : z ≤ s.heap.size ∧ n0 ≤ k0 ∧ (n0 = k0 → s.heap.size = z + n0)) (hf : 8 ≤ R.frames) (hlo : 256 ≤ R.locals) : ∀ q ∈ tb_La_run, pm_IO p l e R s m args below meth c D pj_cl z b aC k0 s0 n0 pj_mi (pm_Eo below D pj_cl z b aC pj_xn args s k0 s0) q := by
  obtain ⟨hx, hb, -, hr, hlocks, hname, hown, hts⟩ := hcx
  have hG : ∀ w ∈ pj_G, w.before args s = true := fun w h => hts w (List.mem_cons_of_mem _ h)
  have hK := hF.1
  have hAO := hF.2.1
  have hSt := hF.2.2.2.2.1
  unfold tb_La_run
  refine List.forall_mem_cons.mpr ⟨pm_IO.go (ps_aload_n (kk := 2) hx hb rfl (by decide +kernel)), ?_⟩
  refine List.forall_mem_cons.mpr ⟨pm_IO.go (ps_iconst hx hb (n := (0)) (v := (0)) (by decide +kernel) (by decide +kernel)), ?_⟩
  refine List.forall_mem_cons.mpr ⟨pm_IO.go (ps_aload_n (kk := 0) hx hb rfl (by decide +kernel)), ?_⟩
  refine List.forall_mem_cons.mpr ⟨pm_IO.go (ps_iload_n (kk := 1) hx hb rfl (by decide +kernel)), ?_⟩
  refine List.forall_mem_cons.mpr ⟨pl_V hx hb hown (hG _ wi_592) (hG _ wi_593) (hG _ wi_594) (sg_De_run hG) (by decide +kernel) hK (ci := 0) rfl rfl (n := 1) (by decide +kernel) (cw_De_run hG) mi_De_run (by decide +kernel), ?_⟩
  refine List.forall_mem_cons.mpr ⟨pm_IO.go (ps_i2l hx hb (by decide +kernel)), ?_⟩
  refine List.forall_mem_cons.mpr ⟨pm_IO.go (ps_last hx hb hK 1 rfl (by decide +kernel)), ?_⟩
  refine List.forall_mem_cons.mpr ⟨pm_IO.go (ps_goto hx hb (off := 9) (by decide +kernel) (by decide +kernel)), ?_⟩
  refine List.forall_mem_cons.mpr ⟨pm_IO.go (ps_astore_n (kk := 3) hx hb rfl (by decide +kernel)), ?_⟩
  refine List.forall_mem_cons.mpr ⟨pm_IO.go (ps_iconst hx hb (n := (1)) (v := (1)) (by decide +kernel) (by decide +kernel)), ?_⟩
  refine List.forall_mem_cons.mpr ⟨pm_IO.fin fin_iret (ps_iret hx hb hr hlocks (by decide +kernel)), ?_⟩
  refine List.forall_mem_cons.mpr ⟨pm_IO.go (ps_astore_n (kk := 3) hx hb rfl (by decide +kernel)), ?_⟩
  refine List.forall_mem_cons.mpr ⟨pm_IO.go (ps_iconst hx hb (n := (2)) (v := (2)) (by decide +kernel) (by decide +kernel)), ?_⟩
  refine List.forall_mem_cons.mpr ⟨pm_IO.fin fin_iret (ps_iret hx hb hr hlocks (by decide +kernel)), ?_⟩
  refine List.forall_mem_cons.mpr ⟨pm_IO.go (ps_iconst hx hb (n := (0)) (v := (0)) (by decide +kernel) (by decide +kernel)), ?_⟩
  refine List.forall_mem_cons.mpr ⟨pm_IO.fin fin_iret (ps_iret hx hb hr hlocks (by decide +kernel)), ?_⟩
  exact fun _ h => absurd h List.not_mem_nil
set_option maxHeartbeats 4000000 in
theorem hx_La_run (hcx : pm_cx p s m args meth c y_La_run method_8_code 4 (Option.some Jvm.ClassFile.FieldType.int) w_La_run) (hh : c.exceptionTable.toList.map (fun h => (h.startPc, h.endPc, h.handlerPc, h.catchType)) = [((0 : Nat), (9 : Nat), (12 : Nat), (15 : Nat)), ((0 : Nat), (9 : Nat), (15 : Nat), (13 : Nat))]) (hF : pj_KF D aC z sa s) {E : pm_O → State → Prop} : ∀ (pc x : Nat) (ls : pm_L) (h : pm_H) (H : Heap) (locs : List Loc) (LS : Array Slot) (cells slots : Nat) (q : Addr) (ce : Cell) (rest : List Value), pm_LV z b c.maxLocals LS ls → pm_Q D pj_cl z b aC h H → va_S (fun q : Nat => z ≤ q) s.heap H locs → k0 + cells = h.2.1 → s0 + slots = h.2.2.1 → h.1 + k0 ≤ n0 + h.2.1 → H[q]? = some ce → ce.vm = .none → s.vm.findClass (pj_xn x) = some ce.cls →
      (∀ pc1 i : Nat, M_La_run.2.2 pc x = .inl (pc1, i) → ∀ Q : State → Prop, pm_W p l e R s m args below meth c D pj_cl z b aC k0 s0 n0 Q (pc1, ls.map (fun _ => none), [], h) → px_X p l e R s m args below meth c H locs cells slots Q (F0 m pc LS rest) q) ∧ (M_La_run.2.2 pc x = .inr true → px_X p l e R s m args below meth c H locs cells slots (E (.inr x, h)) (F0 m pc LS rest) q) := by
  intro pc x ls h H locs LS cells slots q ce rest hl hq hS hk hs hn hce hcv hcl
  obtain ⟨hx, hb, hml, hr, hlocks, hname, hown, hts⟩ := hcx
  have hG : ∀ w ∈ pj_G, w.before args s = true := fun w h => hts w (List.mem_cons_of_mem _ h)
  obtain ⟨x0, t0, e0, f0, g0⟩ := List.map_eq_cons_iff.mp hh
  obtain ⟨x1, t1, e1, f1, g1⟩ := List.map_eq_cons_iff.mp g0
  have g9 := List.map_eq_nil_iff.mp g1
  subst g9
  subst e1
  obtain ⟨a0, b0, c0, d0⟩ := pj_row f0
  obtain ⟨a1, b1, c1, d1⟩ := pj_row f1
  refine ⟨fun pc1 i hM Q kk => ?_, fun hM => (pm_cat_no hM).elim⟩
  rcases pm_cat_cons hM with ⟨w1, w2, rfl, rfl, rfl⟩ | hM
  · exact px_catch (name := "java/lang/IllegalStateException") hown [] x0 [x1] e0 (fun z9 hz9 => nomatch hz9) (pj_cov a0 b0 w1 w2) (by rw [d0]; decide) (by rw [d0]; exact hG _ (pj_in 481 (by decide +kernel) (by decide +kernel))) (ca_1 hF) hce hcv hcl (by rw [c0]; exact pj_hand (i := 3) hx hb (Or.inl ⟨3, rfl, by decide +kernel, rfl⟩) (by rw [hml]; decide) hl hq hS hk hs hn kk)
  rcases pm_cat_cons hM with ⟨w1, w2, rfl, rfl, rfl⟩ | hM
  · exact px_catch (name := "java/lang/IllegalArgumentException") hown [x0] x1 [] e0 (List.forall_mem_cons.mpr ⟨⟨by rw [d0]; decide, "java/lang/IllegalStateException", by rw [d0]; exact hG _ (pj_in 481 (by decide +kernel) (by decide +kernel)), hF.2.2.2.2.2.2 ("java/lang/IllegalArgumentException", "java/lang/IllegalStateException") (by decide)⟩, fun _ h9 => absurd h9 List.not_mem_nil⟩) (pj_cov a1 b1 w1 w2) (by rw [d1]; decide) (by rw [d1]; exact hG _ (pj_in 480 (by decide +kernel) (by decide +kernel))) (ca_0 hF) hce hcv hcl (by rw [c1]; exact pj_hand (i := 3) hx hb (Or.inl ⟨3, rfl, by decide +kernel, rfl⟩) (by rw [hml]; decide) hl hq hS hk hs hn kk)
  exact nomatch (show (Sum.inr false : (Nat × Nat) ⊕ Bool) = .inl (pc1, i) from hM)
theorem ok_La_run (hl9 : l.stackTraces = false) : pm_Ok l (pj_KF D aC z sa) D pj_cl z b aC pj_xn pj_mi (pj_P xs L) 160 :=
  pm_okC (ret := (Option.some Jvm.ClassFile.FieldType.int)) rfl rfl mi_La_run rfl mo_La_run (fun p e R s m args below meth c k0 s0 n0 hcx hh hF hz hf hlo => pm_B.tbl rfl (io_La_run hl9 hcx hF hz hf hlo) (hx_La_run hcx hh hF))
theorem mo_La_spent_ : ∀ q ∈ tb_La_spent, pm_MO q.2 := by
  unfold tb_La_spent
  refine List.forall_mem_cons.mpr ⟨pm_MO.go (mo_aload _ _), ?_⟩
  refine List.forall_mem_cons.mpr ⟨pm_MO.go (mo_c _ _), ?_⟩
  refine List.forall_mem_cons.mpr ⟨pm_MO.go (mo_aload _ _), ?_⟩
  refine List.forall_mem_cons.mpr ⟨pm_MO.go (mo_iload _ _), ?_⟩
  refine List.forall_mem_cons.mpr ⟨mo_callv _ _ _, ?_⟩
  refine List.forall_mem_cons.mpr ⟨pm_MO.go (mo_il _), ?_⟩
  refine List.forall_mem_cons.mpr ⟨pm_MO.go (mo_last), ?_⟩
  refine List.forall_mem_cons.mpr ⟨pm_MO.go (mo_goto _), ?_⟩
  refine List.forall_mem_cons.mpr ⟨pm_MO.go (mo_astore _ _), ?_⟩
  refine List.forall_mem_cons.mpr ⟨pm_MO.go (mo_c _ _), ?_⟩
  refine List.forall_mem_cons.mpr ⟨pm_MO.fin fin_iret, ?_⟩
  refine List.forall_mem_cons.mpr ⟨pm_MO.go (mo_astore _ _), ?_⟩
  refine List.forall_mem_cons.mpr ⟨pm_MO.go (mo_c _ _), ?_⟩
  refine List.forall_mem_cons.mpr ⟨pm_MO.fin fin_iret, ?_⟩
  refine List.forall_mem_cons.mpr ⟨pm_MO.go (mo_c _ _), ?_⟩
  refine List.forall_mem_cons.mpr ⟨pm_MO.fin fin_iret, ?_⟩
  exact fun _ h => absurd h List.not_mem_nil
theorem mo_La_spent : pm_MO M_La_spent.1 := pm_MO.look mo_La_spent_
set_option maxHeartbeats 4000000 in
theorem io_La_spent (hl9 : l.stackTraces = false) (hcx : pm_cx p s m args meth c y_La_spent method_9_code 4 (Option.some Jvm.ClassFile.FieldType.int) w_La_spent) (hF : pj_KF D aC z sa s) (hz : z ≤ s.heap.size ∧ n0 ≤ k0 ∧ (n0 = k0 → s.heap.size = z + n0)) (hf : 8 ≤ R.frames) (hlo : 256 ≤ R.locals) : ∀ q ∈ tb_La_spent, pm_IO p l e R s m args below meth c D pj_cl z b aC k0 s0 n0 pj_mi (pm_Eo below D pj_cl z b aC pj_xn args s k0 s0) q := by
  obtain ⟨hx, hb, -, hr, hlocks, hname, hown, hts⟩ := hcx
  have hG : ∀ w ∈ pj_G, w.before args s = true := fun w h => hts w (List.mem_cons_of_mem _ h)
  have hK := hF.1
  have hAO := hF.2.1
  have hSt := hF.2.2.2.2.1
  unfold tb_La_spent
  refine List.forall_mem_cons.mpr ⟨pm_IO.go (ps_aload_n (kk := 2) hx hb rfl (by decide +kernel)), ?_⟩
  refine List.forall_mem_cons.mpr ⟨pm_IO.go (ps_iconst hx hb (n := (0)) (v := (0)) (by decide +kernel) (by decide +kernel)), ?_⟩
  refine List.forall_mem_cons.mpr ⟨pm_IO.go (ps_aload_n (kk := 0) hx hb rfl (by decide +kernel)), ?_⟩
  refine List.forall_mem_cons.mpr ⟨pm_IO.go (ps_iload_n (kk := 1) hx hb rfl (by decide +kernel)), ?_⟩
  refine List.forall_mem_cons.mpr ⟨pl_V hx hb hown (hG _ wi_685) (hG _ wi_686) (hG _ wi_687) (sg_De_spent hG) (by decide +kernel) hK (ci := 0) rfl rfl (n := 1) (by decide +kernel) (cw_De_spent hG) mi_De_spent (by decide +kernel), ?_⟩
  refine List.forall_mem_cons.mpr ⟨pm_IO.go (ps_i2l hx hb (by decide +kernel)), ?_⟩
  refine List.forall_mem_cons.mpr ⟨pm_IO.go (ps_last hx hb hK 1 rfl (by decide +kernel)), ?_⟩
  refine List.forall_mem_cons.mpr ⟨pm_IO.go (ps_goto hx hb (off := 9) (by decide +kernel) (by decide +kernel)), ?_⟩
  refine List.forall_mem_cons.mpr ⟨pm_IO.go (ps_astore_n (kk := 3) hx hb rfl (by decide +kernel)), ?_⟩
  refine List.forall_mem_cons.mpr ⟨pm_IO.go (ps_iconst hx hb (n := (1)) (v := (1)) (by decide +kernel) (by decide +kernel)), ?_⟩
  refine List.forall_mem_cons.mpr ⟨pm_IO.fin fin_iret (ps_iret hx hb hr hlocks (by decide +kernel)), ?_⟩
  refine List.forall_mem_cons.mpr ⟨pm_IO.go (ps_astore_n (kk := 3) hx hb rfl (by decide +kernel)), ?_⟩
  refine List.forall_mem_cons.mpr ⟨pm_IO.go (ps_iconst hx hb (n := (2)) (v := (2)) (by decide +kernel) (by decide +kernel)), ?_⟩
  refine List.forall_mem_cons.mpr ⟨pm_IO.fin fin_iret (ps_iret hx hb hr hlocks (by decide +kernel)), ?_⟩
  refine List.forall_mem_cons.mpr ⟨pm_IO.go (ps_iconst hx hb (n := (0)) (v := (0)) (by decide +kernel) (by decide +kernel)), ?_⟩
  refine List.forall_mem_cons.mpr ⟨pm_IO.fin fin_iret (ps_iret hx hb hr hlocks (by decide +kernel)), ?_⟩
  exact fun _ h => absurd h List.not_mem_nil
set_option maxHeartbeats 4000000 in
theorem hx_La_spent (hcx : pm_cx p s m args meth c y_La_spent method_9_code 4 (Option.some Jvm.ClassFile.FieldType.int) w_La_spent) (hh : c.exceptionTable.toList.map (fun h => (h.startPc, h.endPc, h.handlerPc, h.catchType)) = [((0 : Nat), (9 : Nat), (12 : Nat), (13 : Nat)), ((0 : Nat), (9 : Nat), (15 : Nat), (15 : Nat))]) (hF : pj_KF D aC z sa s) {E : pm_O → State → Prop} : ∀ (pc x : Nat) (ls : pm_L) (h : pm_H) (H : Heap) (locs : List Loc) (LS : Array Slot) (cells slots : Nat) (q : Addr) (ce : Cell) (rest : List Value), pm_LV z b c.maxLocals LS ls → pm_Q D pj_cl z b aC h H → va_S (fun q : Nat => z ≤ q) s.heap H locs → k0 + cells = h.2.1 → s0 + slots = h.2.2.1 → h.1 + k0 ≤ n0 + h.2.1 → H[q]? = some ce → ce.vm = .none → s.vm.findClass (pj_xn x) = some ce.cls →
      (∀ pc1 i : Nat, M_La_spent.2.2 pc x = .inl (pc1, i) → ∀ Q : State → Prop, pm_W p l e R s m args below meth c D pj_cl z b aC k0 s0 n0 Q (pc1, ls.map (fun _ => none), [], h) → px_X p l e R s m args below meth c H locs cells slots Q (F0 m pc LS rest) q) ∧ (M_La_spent.2.2 pc x = .inr true → px_X p l e R s m args below meth c H locs cells slots (E (.inr x, h)) (F0 m pc LS rest) q) := by
  intro pc x ls h H locs LS cells slots q ce rest hl hq hS hk hs hn hce hcv hcl
  obtain ⟨hx, hb, hml, hr, hlocks, hname, hown, hts⟩ := hcx
  have hG : ∀ w ∈ pj_G, w.before args s = true := fun w h => hts w (List.mem_cons_of_mem _ h)
  obtain ⟨x0, t0, e0, f0, g0⟩ := List.map_eq_cons_iff.mp hh
  obtain ⟨x1, t1, e1, f1, g1⟩ := List.map_eq_cons_iff.mp g0
  have g9 := List.map_eq_nil_iff.mp g1
  subst g9
  subst e1
  obtain ⟨a0, b0, c0, d0⟩ := pj_row f0
  obtain ⟨a1, b1, c1, d1⟩ := pj_row f1
  refine ⟨fun pc1 i hM Q kk => ?_, fun hM => (pm_cat_no hM).elim⟩
  rcases pm_cat_cons hM with ⟨w1, w2, rfl, rfl, rfl⟩ | hM
  · exact px_catch (name := "java/lang/IllegalArgumentException") hown [] x0 [x1] e0 (fun z9 hz9 => nomatch hz9) (pj_cov a0 b0 w1 w2) (by rw [d0]; decide) (by rw [d0]; exact hG _ (pj_in 480 (by decide +kernel) (by decide +kernel))) (ca_0 hF) hce hcv hcl (by rw [c0]; exact pj_hand (i := 3) hx hb (Or.inl ⟨3, rfl, by decide +kernel, rfl⟩) (by rw [hml]; decide) hl hq hS hk hs hn kk)
  rcases pm_cat_cons hM with ⟨w1, w2, rfl, rfl, rfl⟩ | hM
  · exact px_catch (name := "java/lang/IllegalStateException") hown [x0] x1 [] e0 (List.forall_mem_cons.mpr ⟨⟨by rw [d0]; decide, "java/lang/IllegalArgumentException", by rw [d0]; exact hG _ (pj_in 480 (by decide +kernel) (by decide +kernel)), hF.2.2.2.2.2.2 ("java/lang/IllegalStateException", "java/lang/IllegalArgumentException") (by decide)⟩, fun _ h9 => absurd h9 List.not_mem_nil⟩) (pj_cov a1 b1 w1 w2) (by rw [d1]; decide) (by rw [d1]; exact hG _ (pj_in 481 (by decide +kernel) (by decide +kernel))) (ca_1 hF) hce hcv hcl (by rw [c1]; exact pj_hand (i := 3) hx hb (Or.inl ⟨3, rfl, by decide +kernel, rfl⟩) (by rw [hml]; decide) hl hq hS hk hs hn kk)
  exact nomatch (show (Sum.inr false : (Nat × Nat) ⊕ Bool) = .inl (pc1, i) from hM)
theorem ok_La_spent (hl9 : l.stackTraces = false) : pm_Ok l (pj_KF D aC z sa) D pj_cl z b aC pj_xn pj_mi (pj_P xs L) 161 :=
  pm_okC (ret := (Option.some Jvm.ClassFile.FieldType.int)) rfl rfl mi_La_spent rfl mo_La_spent (fun p e R s m args below meth c k0 s0 n0 hcx hh hF hz hf hlo => pm_B.tbl rfl (io_La_spent hl9 hcx hF hz hf hlo) (hx_La_spent hcx hh hF))
theorem mo_La_alone_ : ∀ q ∈ tb_La_alone, pm_MO q.2 := by
  unfold tb_La_alone
  refine List.forall_mem_cons.mpr ⟨pm_MO.go (mo_aload _ _), ?_⟩
  refine List.forall_mem_cons.mpr ⟨pm_MO.go (mo_c _ _), ?_⟩
  refine List.forall_mem_cons.mpr ⟨pm_MO.go (mo_aload _ _), ?_⟩
  refine List.forall_mem_cons.mpr ⟨pm_MO.go (mo_iload _ _), ?_⟩
  refine List.forall_mem_cons.mpr ⟨mo_callv _ _ _, ?_⟩
  refine List.forall_mem_cons.mpr ⟨pm_MO.go (mo_il _), ?_⟩
  refine List.forall_mem_cons.mpr ⟨pm_MO.go (mo_last), ?_⟩
  refine List.forall_mem_cons.mpr ⟨pm_MO.go (mo_goto _), ?_⟩
  refine List.forall_mem_cons.mpr ⟨pm_MO.go (mo_astore _ _), ?_⟩
  refine List.forall_mem_cons.mpr ⟨pm_MO.go (mo_c _ _), ?_⟩
  refine List.forall_mem_cons.mpr ⟨pm_MO.fin fin_iret, ?_⟩
  refine List.forall_mem_cons.mpr ⟨pm_MO.go (mo_astore _ _), ?_⟩
  refine List.forall_mem_cons.mpr ⟨pm_MO.go (mo_c _ _), ?_⟩
  refine List.forall_mem_cons.mpr ⟨pm_MO.fin fin_iret, ?_⟩
  refine List.forall_mem_cons.mpr ⟨pm_MO.go (mo_c _ _), ?_⟩
  refine List.forall_mem_cons.mpr ⟨pm_MO.fin fin_iret, ?_⟩
  exact fun _ h => absurd h List.not_mem_nil
theorem mo_La_alone : pm_MO M_La_alone.1 := pm_MO.look mo_La_alone_
set_option maxHeartbeats 4000000 in
theorem io_La_alone (hl9 : l.stackTraces = false) (hcx : pm_cx p s m args meth c y_La_alone method_10_code 4 (Option.some Jvm.ClassFile.FieldType.int) w_La_alone) (hF : pj_KF D aC z sa s) (hz : z ≤ s.heap.size ∧ n0 ≤ k0 ∧ (n0 = k0 → s.heap.size = z + n0)) (hf : 8 ≤ R.frames) (hlo : 256 ≤ R.locals) : ∀ q ∈ tb_La_alone, pm_IO p l e R s m args below meth c D pj_cl z b aC k0 s0 n0 pj_mi (pm_Eo below D pj_cl z b aC pj_xn args s k0 s0) q := by
  obtain ⟨hx, hb, -, hr, hlocks, hname, hown, hts⟩ := hcx
  have hG : ∀ w ∈ pj_G, w.before args s = true := fun w h => hts w (List.mem_cons_of_mem _ h)
  have hK := hF.1
  have hAO := hF.2.1
  have hSt := hF.2.2.2.2.1
  unfold tb_La_alone
  refine List.forall_mem_cons.mpr ⟨pm_IO.go (ps_aload_n (kk := 2) hx hb rfl (by decide +kernel)), ?_⟩
  refine List.forall_mem_cons.mpr ⟨pm_IO.go (ps_iconst hx hb (n := (0)) (v := (0)) (by decide +kernel) (by decide +kernel)), ?_⟩
  refine List.forall_mem_cons.mpr ⟨pm_IO.go (ps_aload_n (kk := 0) hx hb rfl (by decide +kernel)), ?_⟩
  refine List.forall_mem_cons.mpr ⟨pm_IO.go (ps_iload_n (kk := 1) hx hb rfl (by decide +kernel)), ?_⟩
  refine List.forall_mem_cons.mpr ⟨pl_V hx hb hown (hG _ wi_693) (hG _ wi_694) (hG _ wi_695) (sg_De_alone hG) (by decide +kernel) hK (ci := 0) rfl rfl (n := 1) (by decide +kernel) (cw_De_alone hG) mi_De_alone (by decide +kernel), ?_⟩
  refine List.forall_mem_cons.mpr ⟨pm_IO.go (ps_i2l hx hb (by decide +kernel)), ?_⟩
  refine List.forall_mem_cons.mpr ⟨pm_IO.go (ps_last hx hb hK 1 rfl (by decide +kernel)), ?_⟩
  refine List.forall_mem_cons.mpr ⟨pm_IO.go (ps_goto hx hb (off := 9) (by decide +kernel) (by decide +kernel)), ?_⟩
  refine List.forall_mem_cons.mpr ⟨pm_IO.go (ps_astore_n (kk := 3) hx hb rfl (by decide +kernel)), ?_⟩
  refine List.forall_mem_cons.mpr ⟨pm_IO.go (ps_iconst hx hb (n := (1)) (v := (1)) (by decide +kernel) (by decide +kernel)), ?_⟩
  refine List.forall_mem_cons.mpr ⟨pm_IO.fin fin_iret (ps_iret hx hb hr hlocks (by decide +kernel)), ?_⟩
  refine List.forall_mem_cons.mpr ⟨pm_IO.go (ps_astore_n (kk := 3) hx hb rfl (by decide +kernel)), ?_⟩
  refine List.forall_mem_cons.mpr ⟨pm_IO.go (ps_iconst hx hb (n := (2)) (v := (2)) (by decide +kernel) (by decide +kernel)), ?_⟩
  refine List.forall_mem_cons.mpr ⟨pm_IO.fin fin_iret (ps_iret hx hb hr hlocks (by decide +kernel)), ?_⟩
  refine List.forall_mem_cons.mpr ⟨pm_IO.go (ps_iconst hx hb (n := (0)) (v := (0)) (by decide +kernel) (by decide +kernel)), ?_⟩
  refine List.forall_mem_cons.mpr ⟨pm_IO.fin fin_iret (ps_iret hx hb hr hlocks (by decide +kernel)), ?_⟩
  exact fun _ h => absurd h List.not_mem_nil
set_option maxHeartbeats 4000000 in
theorem hx_La_alone (hcx : pm_cx p s m args meth c y_La_alone method_10_code 4 (Option.some Jvm.ClassFile.FieldType.int) w_La_alone) (hh : c.exceptionTable.toList.map (fun h => (h.startPc, h.endPc, h.handlerPc, h.catchType)) = [((0 : Nat), (9 : Nat), (12 : Nat), (15 : Nat)), ((0 : Nat), (9 : Nat), (15 : Nat), (13 : Nat))]) (hF : pj_KF D aC z sa s) {E : pm_O → State → Prop} : ∀ (pc x : Nat) (ls : pm_L) (h : pm_H) (H : Heap) (locs : List Loc) (LS : Array Slot) (cells slots : Nat) (q : Addr) (ce : Cell) (rest : List Value), pm_LV z b c.maxLocals LS ls → pm_Q D pj_cl z b aC h H → va_S (fun q : Nat => z ≤ q) s.heap H locs → k0 + cells = h.2.1 → s0 + slots = h.2.2.1 → h.1 + k0 ≤ n0 + h.2.1 → H[q]? = some ce → ce.vm = .none → s.vm.findClass (pj_xn x) = some ce.cls →
      (∀ pc1 i : Nat, M_La_alone.2.2 pc x = .inl (pc1, i) → ∀ Q : State → Prop, pm_W p l e R s m args below meth c D pj_cl z b aC k0 s0 n0 Q (pc1, ls.map (fun _ => none), [], h) → px_X p l e R s m args below meth c H locs cells slots Q (F0 m pc LS rest) q) ∧ (M_La_alone.2.2 pc x = .inr true → px_X p l e R s m args below meth c H locs cells slots (E (.inr x, h)) (F0 m pc LS rest) q) := by
  intro pc x ls h H locs LS cells slots q ce rest hl hq hS hk hs hn hce hcv hcl
  obtain ⟨hx, hb, hml, hr, hlocks, hname, hown, hts⟩ := hcx
  have hG : ∀ w ∈ pj_G, w.before args s = true := fun w h => hts w (List.mem_cons_of_mem _ h)
  obtain ⟨x0, t0, e0, f0, g0⟩ := List.map_eq_cons_iff.mp hh
  obtain ⟨x1, t1, e1, f1, g1⟩ := List.map_eq_cons_iff.mp g0
  have g9 := List.map_eq_nil_iff.mp g1
  subst g9
  subst e1
  obtain ⟨a0, b0, c0, d0⟩ := pj_row f0
  obtain ⟨a1, b1, c1, d1⟩ := pj_row f1
  refine ⟨fun pc1 i hM Q kk => ?_, fun hM => (pm_cat_no hM).elim⟩
  rcases pm_cat_cons hM with ⟨w1, w2, rfl, rfl, rfl⟩ | hM
  · exact px_catch (name := "java/lang/IllegalStateException") hown [] x0 [x1] e0 (fun z9 hz9 => nomatch hz9) (pj_cov a0 b0 w1 w2) (by rw [d0]; decide) (by rw [d0]; exact hG _ (pj_in 481 (by decide +kernel) (by decide +kernel))) (ca_1 hF) hce hcv hcl (by rw [c0]; exact pj_hand (i := 3) hx hb (Or.inl ⟨3, rfl, by decide +kernel, rfl⟩) (by rw [hml]; decide) hl hq hS hk hs hn kk)
  rcases pm_cat_cons hM with ⟨w1, w2, rfl, rfl, rfl⟩ | hM
  · exact px_catch (name := "java/lang/IllegalArgumentException") hown [x0] x1 [] e0 (List.forall_mem_cons.mpr ⟨⟨by rw [d0]; decide, "java/lang/IllegalStateException", by rw [d0]; exact hG _ (pj_in 481 (by decide +kernel) (by decide +kernel)), hF.2.2.2.2.2.2 ("java/lang/IllegalArgumentException", "java/lang/IllegalStateException") (by decide)⟩, fun _ h9 => absurd h9 List.not_mem_nil⟩) (pj_cov a1 b1 w1 w2) (by rw [d1]; decide) (by rw [d1]; exact hG _ (pj_in 480 (by decide +kernel) (by decide +kernel))) (ca_0 hF) hce hcv hcl (by rw [c1]; exact pj_hand (i := 3) hx hb (Or.inl ⟨3, rfl, by decide +kernel, rfl⟩) (by rw [hml]; decide) hl hq hS hk hs hn kk)
  exact nomatch (show (Sum.inr false : (Nat × Nat) ⊕ Bool) = .inl (pc1, i) from hM)
theorem ok_La_alone (hl9 : l.stackTraces = false) : pm_Ok l (pj_KF D aC z sa) D pj_cl z b aC pj_xn pj_mi (pj_P xs L) 162 :=
  pm_okC (ret := (Option.some Jvm.ClassFile.FieldType.int)) rfl rfl mi_La_alone rfl mo_La_alone (fun p e R s m args below meth c k0 s0 n0 hcx hh hF hz hf hlo => pm_B.tbl rfl (io_La_alone hl9 hcx hF hz hf hlo) (hx_La_alone hcx hh hF))
theorem mo_La_lane_ : ∀ q ∈ tb_La_lane, pm_MO q.2 := by
  unfold tb_La_lane
  refine List.forall_mem_cons.mpr ⟨pm_MO.go (mo_aload _ _), ?_⟩
  refine List.forall_mem_cons.mpr ⟨pm_MO.go (mo_c _ _), ?_⟩
  refine List.forall_mem_cons.mpr ⟨pm_MO.go (mo_aload _ _), ?_⟩
  refine List.forall_mem_cons.mpr ⟨pm_MO.go (mo_iload _ _), ?_⟩
  refine List.forall_mem_cons.mpr ⟨pm_MO.go (mo_iload _ _), ?_⟩
  refine List.forall_mem_cons.mpr ⟨pm_MO.go (mo_iload _ _), ?_⟩
  refine List.forall_mem_cons.mpr ⟨mo_callv _ _ _, ?_⟩
  refine List.forall_mem_cons.mpr ⟨pm_MO.go (mo_il _), ?_⟩
  refine List.forall_mem_cons.mpr ⟨pm_MO.go (mo_last), ?_⟩
  refine List.forall_mem_cons.mpr ⟨pm_MO.go (mo_goto _), ?_⟩
  refine List.forall_mem_cons.mpr ⟨pm_MO.go (mo_astore _ _), ?_⟩
  refine List.forall_mem_cons.mpr ⟨pm_MO.go (mo_c _ _), ?_⟩
  refine List.forall_mem_cons.mpr ⟨pm_MO.fin fin_iret, ?_⟩
  refine List.forall_mem_cons.mpr ⟨pm_MO.go (mo_astore _ _), ?_⟩
  refine List.forall_mem_cons.mpr ⟨pm_MO.go (mo_c _ _), ?_⟩
  refine List.forall_mem_cons.mpr ⟨pm_MO.fin fin_iret, ?_⟩
  refine List.forall_mem_cons.mpr ⟨pm_MO.go (mo_c _ _), ?_⟩
  refine List.forall_mem_cons.mpr ⟨pm_MO.fin fin_iret, ?_⟩
  exact fun _ h => absurd h List.not_mem_nil
theorem mo_La_lane : pm_MO M_La_lane.1 := pm_MO.look mo_La_lane_
set_option maxHeartbeats 4000000 in
theorem io_La_lane (hl9 : l.stackTraces = false) (hcx : pm_cx p s m args meth c y_La_lane method_11_code 6 (Option.some Jvm.ClassFile.FieldType.int) w_La_lane) (hF : pj_KF D aC z sa s) (hz : z ≤ s.heap.size ∧ n0 ≤ k0 ∧ (n0 = k0 → s.heap.size = z + n0)) (hf : 8 ≤ R.frames) (hlo : 256 ≤ R.locals) : ∀ q ∈ tb_La_lane, pm_IO p l e R s m args below meth c D pj_cl z b aC k0 s0 n0 pj_mi (pm_Eo below D pj_cl z b aC pj_xn args s k0 s0) q := by
  obtain ⟨hx, hb, -, hr, hlocks, hname, hown, hts⟩ := hcx
  have hG : ∀ w ∈ pj_G, w.before args s = true := fun w h => hts w (List.mem_cons_of_mem _ h)
  have hK := hF.1
  have hAO := hF.2.1
  have hSt := hF.2.2.2.2.1
  unfold tb_La_lane
  refine List.forall_mem_cons.mpr ⟨pm_IO.go (ps_aload hx hb (by decide +kernel)), ?_⟩
  refine List.forall_mem_cons.mpr ⟨pm_IO.go (ps_iconst hx hb (n := (0)) (v := (0)) (by decide +kernel) (by decide +kernel)), ?_⟩
  refine List.forall_mem_cons.mpr ⟨pm_IO.go (ps_aload_n (kk := 0) hx hb rfl (by decide +kernel)), ?_⟩
  refine List.forall_mem_cons.mpr ⟨pm_IO.go (ps_iload_n (kk := 1) hx hb rfl (by decide +kernel)), ?_⟩
  refine List.forall_mem_cons.mpr ⟨pm_IO.go (ps_iload_n (kk := 2) hx hb rfl (by decide +kernel)), ?_⟩
  refine List.forall_mem_cons.mpr ⟨pm_IO.go (ps_iload_n (kk := 3) hx hb rfl (by decide +kernel)), ?_⟩
  refine List.forall_mem_cons.mpr ⟨pl_V hx hb hown (hG _ wi_740) (hG _ wi_741) (hG _ wi_742) (sg_De_lane hG) (by decide +kernel) hK (ci := 0) rfl rfl (n := 3) (by decide +kernel) (cw_De_lane hG) mi_De_lane (by decide +kernel), ?_⟩
  refine List.forall_mem_cons.mpr ⟨pm_IO.go (ps_i2l hx hb (by decide +kernel)), ?_⟩
  refine List.forall_mem_cons.mpr ⟨pm_IO.go (ps_last hx hb hK 1 rfl (by decide +kernel)), ?_⟩
  refine List.forall_mem_cons.mpr ⟨pm_IO.go (ps_goto hx hb (off := 11) (by decide +kernel) (by decide +kernel)), ?_⟩
  refine List.forall_mem_cons.mpr ⟨pm_IO.go (ps_astore hx hb (by decide +kernel)), ?_⟩
  refine List.forall_mem_cons.mpr ⟨pm_IO.go (ps_iconst hx hb (n := (1)) (v := (1)) (by decide +kernel) (by decide +kernel)), ?_⟩
  refine List.forall_mem_cons.mpr ⟨pm_IO.fin fin_iret (ps_iret hx hb hr hlocks (by decide +kernel)), ?_⟩
  refine List.forall_mem_cons.mpr ⟨pm_IO.go (ps_astore hx hb (by decide +kernel)), ?_⟩
  refine List.forall_mem_cons.mpr ⟨pm_IO.go (ps_iconst hx hb (n := (2)) (v := (2)) (by decide +kernel) (by decide +kernel)), ?_⟩
  refine List.forall_mem_cons.mpr ⟨pm_IO.fin fin_iret (ps_iret hx hb hr hlocks (by decide +kernel)), ?_⟩
  refine List.forall_mem_cons.mpr ⟨pm_IO.go (ps_iconst hx hb (n := (0)) (v := (0)) (by decide +kernel) (by decide +kernel)), ?_⟩
  refine List.forall_mem_cons.mpr ⟨pm_IO.fin fin_iret (ps_iret hx hb hr hlocks (by decide +kernel)), ?_⟩
  exact fun _ h => absurd h List.not_mem_nil
set_option maxHeartbeats 4000000 in
theorem hx_La_lane (hcx : pm_cx p s m args meth c y_La_lane method_11_code 6 (Option.some Jvm.ClassFile.FieldType.int) w_La_lane) (hh : c.exceptionTable.toList.map (fun h => (h.startPc, h.endPc, h.handlerPc, h.catchType)) = [((0 : Nat), (12 : Nat), (15 : Nat), (13 : Nat)), ((0 : Nat), (12 : Nat), (19 : Nat), (15 : Nat))]) (hF : pj_KF D aC z sa s) {E : pm_O → State → Prop} : ∀ (pc x : Nat) (ls : pm_L) (h : pm_H) (H : Heap) (locs : List Loc) (LS : Array Slot) (cells slots : Nat) (q : Addr) (ce : Cell) (rest : List Value), pm_LV z b c.maxLocals LS ls → pm_Q D pj_cl z b aC h H → va_S (fun q : Nat => z ≤ q) s.heap H locs → k0 + cells = h.2.1 → s0 + slots = h.2.2.1 → h.1 + k0 ≤ n0 + h.2.1 → H[q]? = some ce → ce.vm = .none → s.vm.findClass (pj_xn x) = some ce.cls →
      (∀ pc1 i : Nat, M_La_lane.2.2 pc x = .inl (pc1, i) → ∀ Q : State → Prop, pm_W p l e R s m args below meth c D pj_cl z b aC k0 s0 n0 Q (pc1, ls.map (fun _ => none), [], h) → px_X p l e R s m args below meth c H locs cells slots Q (F0 m pc LS rest) q) ∧ (M_La_lane.2.2 pc x = .inr true → px_X p l e R s m args below meth c H locs cells slots (E (.inr x, h)) (F0 m pc LS rest) q) := by
  intro pc x ls h H locs LS cells slots q ce rest hl hq hS hk hs hn hce hcv hcl
  obtain ⟨hx, hb, hml, hr, hlocks, hname, hown, hts⟩ := hcx
  have hG : ∀ w ∈ pj_G, w.before args s = true := fun w h => hts w (List.mem_cons_of_mem _ h)
  obtain ⟨x0, t0, e0, f0, g0⟩ := List.map_eq_cons_iff.mp hh
  obtain ⟨x1, t1, e1, f1, g1⟩ := List.map_eq_cons_iff.mp g0
  have g9 := List.map_eq_nil_iff.mp g1
  subst g9
  subst e1
  obtain ⟨a0, b0, c0, d0⟩ := pj_row f0
  obtain ⟨a1, b1, c1, d1⟩ := pj_row f1
  refine ⟨fun pc1 i hM Q kk => ?_, fun hM => (pm_cat_no hM).elim⟩
  rcases pm_cat_cons hM with ⟨w1, w2, rfl, rfl, rfl⟩ | hM
  · exact px_catch (name := "java/lang/IllegalArgumentException") hown [] x0 [x1] e0 (fun z9 hz9 => nomatch hz9) (pj_cov a0 b0 w1 w2) (by rw [d0]; decide) (by rw [d0]; exact hG _ (pj_in 480 (by decide +kernel) (by decide +kernel))) (ca_0 hF) hce hcv hcl (by rw [c0]; exact pj_hand (i := 5) hx hb (Or.inr ⟨by decide +kernel, rfl⟩) (by rw [hml]; decide) hl hq hS hk hs hn kk)
  rcases pm_cat_cons hM with ⟨w1, w2, rfl, rfl, rfl⟩ | hM
  · exact px_catch (name := "java/lang/IllegalStateException") hown [x0] x1 [] e0 (List.forall_mem_cons.mpr ⟨⟨by rw [d0]; decide, "java/lang/IllegalArgumentException", by rw [d0]; exact hG _ (pj_in 480 (by decide +kernel) (by decide +kernel)), hF.2.2.2.2.2.2 ("java/lang/IllegalStateException", "java/lang/IllegalArgumentException") (by decide)⟩, fun _ h9 => absurd h9 List.not_mem_nil⟩) (pj_cov a1 b1 w1 w2) (by rw [d1]; decide) (by rw [d1]; exact hG _ (pj_in 481 (by decide +kernel) (by decide +kernel))) (ca_1 hF) hce hcv hcl (by rw [c1]; exact pj_hand (i := 5) hx hb (Or.inr ⟨by decide +kernel, rfl⟩) (by rw [hml]; decide) hl hq hS hk hs hn kk)
  exact nomatch (show (Sum.inr false : (Nat × Nat) ⊕ Bool) = .inl (pc1, i) from hM)
theorem ok_La_lane (hl9 : l.stackTraces = false) : pm_Ok l (pj_KF D aC z sa) D pj_cl z b aC pj_xn pj_mi (pj_P xs L) 163 :=
  pm_okC (ret := (Option.some Jvm.ClassFile.FieldType.int)) rfl rfl mi_La_lane rfl mo_La_lane (fun p e R s m args below meth c k0 s0 n0 hcx hh hF hz hf hlo => pm_B.tbl rfl (io_La_lane hl9 hcx hF hz hf hlo) (hx_La_lane hcx hh hF))
theorem mo_La_out_ : ∀ q ∈ tb_La_out, pm_MO q.2 := by
  unfold tb_La_out
  refine List.forall_mem_cons.mpr ⟨pm_MO.go (mo_aload _ _), ?_⟩
  refine List.forall_mem_cons.mpr ⟨pm_MO.go (mo_c _ _), ?_⟩
  refine List.forall_mem_cons.mpr ⟨pm_MO.go (mo_aload _ _), ?_⟩
  refine List.forall_mem_cons.mpr ⟨pm_MO.go (mo_iload _ _), ?_⟩
  refine List.forall_mem_cons.mpr ⟨pm_MO.go (mo_iload _ _), ?_⟩
  refine List.forall_mem_cons.mpr ⟨pm_MO.go (mo_iload _ _), ?_⟩
  refine List.forall_mem_cons.mpr ⟨mo_callv _ _ _, ?_⟩
  refine List.forall_mem_cons.mpr ⟨pm_MO.go (mo_il _), ?_⟩
  refine List.forall_mem_cons.mpr ⟨pm_MO.go (mo_last), ?_⟩
  refine List.forall_mem_cons.mpr ⟨pm_MO.go (mo_goto _), ?_⟩
  refine List.forall_mem_cons.mpr ⟨pm_MO.go (mo_astore _ _), ?_⟩
  refine List.forall_mem_cons.mpr ⟨pm_MO.go (mo_c _ _), ?_⟩
  refine List.forall_mem_cons.mpr ⟨pm_MO.fin fin_iret, ?_⟩
  refine List.forall_mem_cons.mpr ⟨pm_MO.go (mo_astore _ _), ?_⟩
  refine List.forall_mem_cons.mpr ⟨pm_MO.go (mo_c _ _), ?_⟩
  refine List.forall_mem_cons.mpr ⟨pm_MO.fin fin_iret, ?_⟩
  refine List.forall_mem_cons.mpr ⟨pm_MO.go (mo_astore _ _), ?_⟩
  refine List.forall_mem_cons.mpr ⟨pm_MO.go (mo_c _ _), ?_⟩
  refine List.forall_mem_cons.mpr ⟨pm_MO.fin fin_iret, ?_⟩
  refine List.forall_mem_cons.mpr ⟨pm_MO.go (mo_c _ _), ?_⟩
  refine List.forall_mem_cons.mpr ⟨pm_MO.fin fin_iret, ?_⟩
  exact fun _ h => absurd h List.not_mem_nil
theorem mo_La_out : pm_MO M_La_out.1 := pm_MO.look mo_La_out_
set_option maxHeartbeats 4000000 in
theorem io_La_out (hl9 : l.stackTraces = false) (hcx : pm_cx p s m args meth c y_La_out method_12_code 6 (Option.some Jvm.ClassFile.FieldType.int) w_La_out) (hF : pj_KF D aC z sa s) (hz : z ≤ s.heap.size ∧ n0 ≤ k0 ∧ (n0 = k0 → s.heap.size = z + n0)) (hf : 8 ≤ R.frames) (hlo : 256 ≤ R.locals) : ∀ q ∈ tb_La_out, pm_IO p l e R s m args below meth c D pj_cl z b aC k0 s0 n0 pj_mi (pm_Eo below D pj_cl z b aC pj_xn args s k0 s0) q := by
  obtain ⟨hx, hb, -, hr, hlocks, hname, hown, hts⟩ := hcx
  have hG : ∀ w ∈ pj_G, w.before args s = true := fun w h => hts w (List.mem_cons_of_mem _ h)
  have hK := hF.1
  have hAO := hF.2.1
  have hSt := hF.2.2.2.2.1
  unfold tb_La_out
  refine List.forall_mem_cons.mpr ⟨pm_IO.go (ps_aload hx hb (by decide +kernel)), ?_⟩
  refine List.forall_mem_cons.mpr ⟨pm_IO.go (ps_iconst hx hb (n := (0)) (v := (0)) (by decide +kernel) (by decide +kernel)), ?_⟩
  refine List.forall_mem_cons.mpr ⟨pm_IO.go (ps_aload_n (kk := 0) hx hb rfl (by decide +kernel)), ?_⟩
  refine List.forall_mem_cons.mpr ⟨pm_IO.go (ps_iload_n (kk := 1) hx hb rfl (by decide +kernel)), ?_⟩
  refine List.forall_mem_cons.mpr ⟨pm_IO.go (ps_iload_n (kk := 2) hx hb rfl (by decide +kernel)), ?_⟩
  refine List.forall_mem_cons.mpr ⟨pm_IO.go (ps_iload_n (kk := 3) hx hb rfl (by decide +kernel)), ?_⟩
  refine List.forall_mem_cons.mpr ⟨pl_V hx hb hown (hG _ wi_762) (hG _ wi_763) (hG _ wi_764) (sg_De_out hG) (by decide +kernel) hK (ci := 0) rfl rfl (n := 3) (by decide +kernel) (cw_De_out hG) mi_De_out (by decide +kernel), ?_⟩
  refine List.forall_mem_cons.mpr ⟨pm_IO.go (ps_i2l hx hb (by decide +kernel)), ?_⟩
  refine List.forall_mem_cons.mpr ⟨pm_IO.go (ps_last hx hb hK 1 rfl (by decide +kernel)), ?_⟩
  refine List.forall_mem_cons.mpr ⟨pm_IO.go (ps_goto hx hb (off := 15) (by decide +kernel) (by decide +kernel)), ?_⟩
  refine List.forall_mem_cons.mpr ⟨pm_IO.go (ps_astore hx hb (by decide +kernel)), ?_⟩
  refine List.forall_mem_cons.mpr ⟨pm_IO.go (ps_iconst hx hb (n := (1)) (v := (1)) (by decide +kernel) (by decide +kernel)), ?_⟩
  refine List.forall_mem_cons.mpr ⟨pm_IO.fin fin_iret (ps_iret hx hb hr hlocks (by decide +kernel)), ?_⟩
  refine List.forall_mem_cons.mpr ⟨pm_IO.go (ps_astore hx hb (by decide +kernel)), ?_⟩
  refine List.forall_mem_cons.mpr ⟨pm_IO.go (ps_iconst hx hb (n := (2)) (v := (2)) (by decide +kernel) (by decide +kernel)), ?_⟩
  refine List.forall_mem_cons.mpr ⟨pm_IO.fin fin_iret (ps_iret hx hb hr hlocks (by decide +kernel)), ?_⟩
  refine List.forall_mem_cons.mpr ⟨pm_IO.go (ps_astore hx hb (by decide +kernel)), ?_⟩
  refine List.forall_mem_cons.mpr ⟨pm_IO.go (ps_iconst hx hb (n := (3)) (v := (3)) (by decide +kernel) (by decide +kernel)), ?_⟩
  refine List.forall_mem_cons.mpr ⟨pm_IO.fin fin_iret (ps_iret hx hb hr hlocks (by decide +kernel)), ?_⟩
  refine List.forall_mem_cons.mpr ⟨pm_IO.go (ps_iconst hx hb (n := (0)) (v := (0)) (by decide +kernel) (by decide +kernel)), ?_⟩
  refine List.forall_mem_cons.mpr ⟨pm_IO.fin fin_iret (ps_iret hx hb hr hlocks (by decide +kernel)), ?_⟩
  exact fun _ h => absurd h List.not_mem_nil
set_option maxHeartbeats 4000000 in
theorem hx_La_out (hcx : pm_cx p s m args meth c y_La_out method_12_code 6 (Option.some Jvm.ClassFile.FieldType.int) w_La_out) (hh : c.exceptionTable.toList.map (fun h => (h.startPc, h.endPc, h.handlerPc, h.catchType)) = [((0 : Nat), (12 : Nat), (15 : Nat), (13 : Nat)), ((0 : Nat), (12 : Nat), (19 : Nat), (15 : Nat)), ((0 : Nat), (12 : Nat), (23 : Nat), (49 : Nat))]) (hF : pj_KF D aC z sa s) {E : pm_O → State → Prop} : ∀ (pc x : Nat) (ls : pm_L) (h : pm_H) (H : Heap) (locs : List Loc) (LS : Array Slot) (cells slots : Nat) (q : Addr) (ce : Cell) (rest : List Value), pm_LV z b c.maxLocals LS ls → pm_Q D pj_cl z b aC h H → va_S (fun q : Nat => z ≤ q) s.heap H locs → k0 + cells = h.2.1 → s0 + slots = h.2.2.1 → h.1 + k0 ≤ n0 + h.2.1 → H[q]? = some ce → ce.vm = .none → s.vm.findClass (pj_xn x) = some ce.cls →
      (∀ pc1 i : Nat, M_La_out.2.2 pc x = .inl (pc1, i) → ∀ Q : State → Prop, pm_W p l e R s m args below meth c D pj_cl z b aC k0 s0 n0 Q (pc1, ls.map (fun _ => none), [], h) → px_X p l e R s m args below meth c H locs cells slots Q (F0 m pc LS rest) q) ∧ (M_La_out.2.2 pc x = .inr true → px_X p l e R s m args below meth c H locs cells slots (E (.inr x, h)) (F0 m pc LS rest) q) := by
  intro pc x ls h H locs LS cells slots q ce rest hl hq hS hk hs hn hce hcv hcl
  obtain ⟨hx, hb, hml, hr, hlocks, hname, hown, hts⟩ := hcx
  have hG : ∀ w ∈ pj_G, w.before args s = true := fun w h => hts w (List.mem_cons_of_mem _ h)
  obtain ⟨x0, t0, e0, f0, g0⟩ := List.map_eq_cons_iff.mp hh
  obtain ⟨x1, t1, e1, f1, g1⟩ := List.map_eq_cons_iff.mp g0
  obtain ⟨x2, t2, e2, f2, g2⟩ := List.map_eq_cons_iff.mp g1
  have g9 := List.map_eq_nil_iff.mp g2
  subst g9
  subst e2
  subst e1
  obtain ⟨a0, b0, c0, d0⟩ := pj_row f0
  obtain ⟨a1, b1, c1, d1⟩ := pj_row f1
  obtain ⟨a2, b2, c2, d2⟩ := pj_row f2
  refine ⟨fun pc1 i hM Q kk => ?_, fun hM => (pm_cat_no hM).elim⟩
  rcases pm_cat_cons hM with ⟨w1, w2, rfl, rfl, rfl⟩ | hM
  · exact px_catch (name := "java/lang/IllegalArgumentException") hown [] x0 [x1, x2] e0 (fun z9 hz9 => nomatch hz9) (pj_cov a0 b0 w1 w2) (by rw [d0]; decide) (by rw [d0]; exact hG _ (pj_in 480 (by decide +kernel) (by decide +kernel))) (ca_0 hF) hce hcv hcl (by rw [c0]; exact pj_hand (i := 5) hx hb (Or.inr ⟨by decide +kernel, rfl⟩) (by rw [hml]; decide) hl hq hS hk hs hn kk)
  rcases pm_cat_cons hM with ⟨w1, w2, rfl, rfl, rfl⟩ | hM
  · exact px_catch (name := "java/lang/IllegalStateException") hown [x0] x1 [x2] e0 (List.forall_mem_cons.mpr ⟨⟨by rw [d0]; decide, "java/lang/IllegalArgumentException", by rw [d0]; exact hG _ (pj_in 480 (by decide +kernel) (by decide +kernel)), hF.2.2.2.2.2.2 ("java/lang/IllegalStateException", "java/lang/IllegalArgumentException") (by decide)⟩, fun _ h9 => absurd h9 List.not_mem_nil⟩) (pj_cov a1 b1 w1 w2) (by rw [d1]; decide) (by rw [d1]; exact hG _ (pj_in 481 (by decide +kernel) (by decide +kernel))) (ca_1 hF) hce hcv hcl (by rw [c1]; exact pj_hand (i := 5) hx hb (Or.inr ⟨by decide +kernel, rfl⟩) (by rw [hml]; decide) hl hq hS hk hs hn kk)
  rcases pm_cat_cons hM with ⟨w1, w2, rfl, rfl, rfl⟩ | hM
  · exact px_catch (name := "java/lang/IndexOutOfBoundsException") hown [x0, x1] x2 [] e0 (List.forall_mem_cons.mpr ⟨⟨by rw [d0]; decide, "java/lang/IllegalArgumentException", by rw [d0]; exact hG _ (pj_in 480 (by decide +kernel) (by decide +kernel)), hF.2.2.2.2.2.2 ("java/lang/IndexOutOfBoundsException", "java/lang/IllegalArgumentException") (by decide)⟩, List.forall_mem_cons.mpr ⟨⟨by rw [d1]; decide, "java/lang/IllegalStateException", by rw [d1]; exact hG _ (pj_in 481 (by decide +kernel) (by decide +kernel)), hF.2.2.2.2.2.2 ("java/lang/IndexOutOfBoundsException", "java/lang/IllegalStateException") (by decide)⟩, fun _ h9 => absurd h9 List.not_mem_nil⟩⟩) (pj_cov a2 b2 w1 w2) (by rw [d2]; decide) (by rw [d2]; exact hG _ (pj_in 830 (by decide +kernel) (by decide +kernel))) (ca_2 hF) hce hcv hcl (by rw [c2]; exact pj_hand (i := 5) hx hb (Or.inr ⟨by decide +kernel, rfl⟩) (by rw [hml]; decide) hl hq hS hk hs hn kk)
  exact nomatch (show (Sum.inr false : (Nat × Nat) ⊕ Bool) = .inl (pc1, i) from hM)
theorem ok_La_out (hl9 : l.stackTraces = false) : pm_Ok l (pj_KF D aC z sa) D pj_cl z b aC pj_xn pj_mi (pj_P xs L) 164 :=
  pm_okC (ret := (Option.some Jvm.ClassFile.FieldType.int)) rfl rfl mi_La_out rfl mo_La_out (fun p e R s m args below meth c k0 s0 n0 hcx hh hF hz hf hlo => pm_B.tbl rfl (io_La_out hl9 hcx hF hz hf hlo) (hx_La_out hcx hh hF))
theorem mo_La_cell_ : ∀ q ∈ tb_La_cell, pm_MO q.2 := by
  unfold tb_La_cell
  refine List.forall_mem_cons.mpr ⟨pm_MO.go (mo_aload _ _), ?_⟩
  refine List.forall_mem_cons.mpr ⟨pm_MO.go (mo_c _ _), ?_⟩
  refine List.forall_mem_cons.mpr ⟨pm_MO.go (mo_aload _ _), ?_⟩
  refine List.forall_mem_cons.mpr ⟨pm_MO.go (mo_iload _ _), ?_⟩
  refine List.forall_mem_cons.mpr ⟨pm_MO.go (mo_iload _ _), ?_⟩
  refine List.forall_mem_cons.mpr ⟨pm_MO.go (mo_iload _ _), ?_⟩
  refine List.forall_mem_cons.mpr ⟨mo_callv _ _ _, ?_⟩
  refine List.forall_mem_cons.mpr ⟨pm_MO.go (mo_il _), ?_⟩
  refine List.forall_mem_cons.mpr ⟨pm_MO.go (mo_last), ?_⟩
  refine List.forall_mem_cons.mpr ⟨pm_MO.go (mo_goto _), ?_⟩
  refine List.forall_mem_cons.mpr ⟨pm_MO.go (mo_astore _ _), ?_⟩
  refine List.forall_mem_cons.mpr ⟨pm_MO.go (mo_c _ _), ?_⟩
  refine List.forall_mem_cons.mpr ⟨pm_MO.fin fin_iret, ?_⟩
  refine List.forall_mem_cons.mpr ⟨pm_MO.go (mo_astore _ _), ?_⟩
  refine List.forall_mem_cons.mpr ⟨pm_MO.go (mo_c _ _), ?_⟩
  refine List.forall_mem_cons.mpr ⟨pm_MO.fin fin_iret, ?_⟩
  refine List.forall_mem_cons.mpr ⟨pm_MO.go (mo_c _ _), ?_⟩
  refine List.forall_mem_cons.mpr ⟨pm_MO.fin fin_iret, ?_⟩
  exact fun _ h => absurd h List.not_mem_nil
theorem mo_La_cell : pm_MO M_La_cell.1 := pm_MO.look mo_La_cell_
set_option maxHeartbeats 4000000 in
theorem io_La_cell (hl9 : l.stackTraces = false) (hcx : pm_cx p s m args meth c y_La_cell method_13_code 6 (Option.some Jvm.ClassFile.FieldType.int) w_La_cell) (hF : pj_KF D aC z sa s) (hz : z ≤ s.heap.size ∧ n0 ≤ k0 ∧ (n0 = k0 → s.heap.size = z + n0)) (hf : 8 ≤ R.frames) (hlo : 256 ≤ R.locals) : ∀ q ∈ tb_La_cell, pm_IO p l e R s m args below meth c D pj_cl z b aC k0 s0 n0 pj_mi (pm_Eo below D pj_cl z b aC pj_xn args s k0 s0) q := by
  obtain ⟨hx, hb, -, hr, hlocks, hname, hown, hts⟩ := hcx
  have hG : ∀ w ∈ pj_G, w.before args s = true := fun w h => hts w (List.mem_cons_of_mem _ h)
  have hK := hF.1
  have hAO := hF.2.1
  have hSt := hF.2.2.2.2.1
  unfold tb_La_cell
  refine List.forall_mem_cons.mpr ⟨pm_IO.go (ps_aload hx hb (by decide +kernel)), ?_⟩
  refine List.forall_mem_cons.mpr ⟨pm_IO.go (ps_iconst hx hb (n := (0)) (v := (0)) (by decide +kernel) (by decide +kernel)), ?_⟩
  refine List.forall_mem_cons.mpr ⟨pm_IO.go (ps_aload_n (kk := 0) hx hb rfl (by decide +kernel)), ?_⟩
  refine List.forall_mem_cons.mpr ⟨pm_IO.go (ps_iload_n (kk := 1) hx hb rfl (by decide +kernel)), ?_⟩
  refine List.forall_mem_cons.mpr ⟨pm_IO.go (ps_iload_n (kk := 2) hx hb rfl (by decide +kernel)), ?_⟩
  refine List.forall_mem_cons.mpr ⟨pm_IO.go (ps_iload_n (kk := 3) hx hb rfl (by decide +kernel)), ?_⟩
  refine List.forall_mem_cons.mpr ⟨pl_V hx hb hown (hG _ wi_789) (hG _ wi_790) (hG _ wi_791) (sg_De_cell hG) (by decide +kernel) hK (ci := 0) rfl rfl (n := 3) (by decide +kernel) (cw_De_cell hG) mi_De_cell (by decide +kernel), ?_⟩
  refine List.forall_mem_cons.mpr ⟨pm_IO.go (ps_i2l hx hb (by decide +kernel)), ?_⟩
  refine List.forall_mem_cons.mpr ⟨pm_IO.go (ps_last hx hb hK 1 rfl (by decide +kernel)), ?_⟩
  refine List.forall_mem_cons.mpr ⟨pm_IO.go (ps_goto hx hb (off := 11) (by decide +kernel) (by decide +kernel)), ?_⟩
  refine List.forall_mem_cons.mpr ⟨pm_IO.go (ps_astore hx hb (by decide +kernel)), ?_⟩
  refine List.forall_mem_cons.mpr ⟨pm_IO.go (ps_iconst hx hb (n := (1)) (v := (1)) (by decide +kernel) (by decide +kernel)), ?_⟩
  refine List.forall_mem_cons.mpr ⟨pm_IO.fin fin_iret (ps_iret hx hb hr hlocks (by decide +kernel)), ?_⟩
  refine List.forall_mem_cons.mpr ⟨pm_IO.go (ps_astore hx hb (by decide +kernel)), ?_⟩
  refine List.forall_mem_cons.mpr ⟨pm_IO.go (ps_iconst hx hb (n := (2)) (v := (2)) (by decide +kernel) (by decide +kernel)), ?_⟩
  refine List.forall_mem_cons.mpr ⟨pm_IO.fin fin_iret (ps_iret hx hb hr hlocks (by decide +kernel)), ?_⟩
  refine List.forall_mem_cons.mpr ⟨pm_IO.go (ps_iconst hx hb (n := (0)) (v := (0)) (by decide +kernel) (by decide +kernel)), ?_⟩
  refine List.forall_mem_cons.mpr ⟨pm_IO.fin fin_iret (ps_iret hx hb hr hlocks (by decide +kernel)), ?_⟩
  exact fun _ h => absurd h List.not_mem_nil
set_option maxHeartbeats 4000000 in
theorem hx_La_cell (hcx : pm_cx p s m args meth c y_La_cell method_13_code 6 (Option.some Jvm.ClassFile.FieldType.int) w_La_cell) (hh : c.exceptionTable.toList.map (fun h => (h.startPc, h.endPc, h.handlerPc, h.catchType)) = [((0 : Nat), (12 : Nat), (15 : Nat), (13 : Nat)), ((0 : Nat), (12 : Nat), (19 : Nat), (15 : Nat))]) (hF : pj_KF D aC z sa s) {E : pm_O → State → Prop} : ∀ (pc x : Nat) (ls : pm_L) (h : pm_H) (H : Heap) (locs : List Loc) (LS : Array Slot) (cells slots : Nat) (q : Addr) (ce : Cell) (rest : List Value), pm_LV z b c.maxLocals LS ls → pm_Q D pj_cl z b aC h H → va_S (fun q : Nat => z ≤ q) s.heap H locs → k0 + cells = h.2.1 → s0 + slots = h.2.2.1 → h.1 + k0 ≤ n0 + h.2.1 → H[q]? = some ce → ce.vm = .none → s.vm.findClass (pj_xn x) = some ce.cls →
      (∀ pc1 i : Nat, M_La_cell.2.2 pc x = .inl (pc1, i) → ∀ Q : State → Prop, pm_W p l e R s m args below meth c D pj_cl z b aC k0 s0 n0 Q (pc1, ls.map (fun _ => none), [], h) → px_X p l e R s m args below meth c H locs cells slots Q (F0 m pc LS rest) q) ∧ (M_La_cell.2.2 pc x = .inr true → px_X p l e R s m args below meth c H locs cells slots (E (.inr x, h)) (F0 m pc LS rest) q) := by
  intro pc x ls h H locs LS cells slots q ce rest hl hq hS hk hs hn hce hcv hcl
  obtain ⟨hx, hb, hml, hr, hlocks, hname, hown, hts⟩ := hcx
  have hG : ∀ w ∈ pj_G, w.before args s = true := fun w h => hts w (List.mem_cons_of_mem _ h)
  obtain ⟨x0, t0, e0, f0, g0⟩ := List.map_eq_cons_iff.mp hh
  obtain ⟨x1, t1, e1, f1, g1⟩ := List.map_eq_cons_iff.mp g0
  have g9 := List.map_eq_nil_iff.mp g1
  subst g9
  subst e1
  obtain ⟨a0, b0, c0, d0⟩ := pj_row f0
  obtain ⟨a1, b1, c1, d1⟩ := pj_row f1
  refine ⟨fun pc1 i hM Q kk => ?_, fun hM => (pm_cat_no hM).elim⟩
  rcases pm_cat_cons hM with ⟨w1, w2, rfl, rfl, rfl⟩ | hM
  · exact px_catch (name := "java/lang/IllegalArgumentException") hown [] x0 [x1] e0 (fun z9 hz9 => nomatch hz9) (pj_cov a0 b0 w1 w2) (by rw [d0]; decide) (by rw [d0]; exact hG _ (pj_in 480 (by decide +kernel) (by decide +kernel))) (ca_0 hF) hce hcv hcl (by rw [c0]; exact pj_hand (i := 5) hx hb (Or.inr ⟨by decide +kernel, rfl⟩) (by rw [hml]; decide) hl hq hS hk hs hn kk)
  rcases pm_cat_cons hM with ⟨w1, w2, rfl, rfl, rfl⟩ | hM
  · exact px_catch (name := "java/lang/IllegalStateException") hown [x0] x1 [] e0 (List.forall_mem_cons.mpr ⟨⟨by rw [d0]; decide, "java/lang/IllegalArgumentException", by rw [d0]; exact hG _ (pj_in 480 (by decide +kernel) (by decide +kernel)), hF.2.2.2.2.2.2 ("java/lang/IllegalStateException", "java/lang/IllegalArgumentException") (by decide)⟩, fun _ h9 => absurd h9 List.not_mem_nil⟩) (pj_cov a1 b1 w1 w2) (by rw [d1]; decide) (by rw [d1]; exact hG _ (pj_in 481 (by decide +kernel) (by decide +kernel))) (ca_1 hF) hce hcv hcl (by rw [c1]; exact pj_hand (i := 5) hx hb (Or.inr ⟨by decide +kernel, rfl⟩) (by rw [hml]; decide) hl hq hS hk hs hn kk)
  exact nomatch (show (Sum.inr false : (Nat × Nat) ⊕ Bool) = .inl (pc1, i) from hM)
theorem ok_La_cell (hl9 : l.stackTraces = false) : pm_Ok l (pj_KF D aC z sa) D pj_cl z b aC pj_xn pj_mi (pj_P xs L) 165 :=
  pm_okC (ret := (Option.some Jvm.ClassFile.FieldType.int)) rfl rfl mi_La_cell rfl mo_La_cell (fun p e R s m args below meth c k0 s0 n0 hcx hh hF hz hf hlo => pm_B.tbl rfl (io_La_cell hl9 hcx hF hz hf hlo) (hx_La_cell hcx hh hF))
end IO
