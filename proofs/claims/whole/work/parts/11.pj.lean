/-! calls and other instructions that the tables name; what is known at every method's start -/
def pg_irem : pm_S → Option pm_S
  | (pc, ls, .int y :: .int x :: st, h) => bif !(decide (y = 0)) then some (pc + 1, ls, .int (x - x / y * y) :: st, h) else none
  | _ => none
theorem mo_irem : pm_mo pg_irem := by
  intro S S' h
  unfold pg_irem at h
  repeat' split at h
  all_goals first
    | (cases h; done)
    | (obtain ⟨-, rfl⟩ := pm_bif h; exact pm_le.rf)
def pm_isr (as : List Value) : Bool := match as with
  | .ref _ :: _ => true
  | _ => false
/-- a constructor's call -/
def pi_calli (j n : Nat) : pm_I := fun S => match S with
  | (pc, ls, st, h) => bif (Nat.ble n st.length && Nat.ble ((st.drop n).map (fun v => v.category)).sum 8) && pm_isr (st.take n).reverse then .inr (.inl (j, (st.take n).reverse, (pc, ls, st.drop n, h))) else .inr (.inr none)
theorem pi_calli_inv {j n : Nat} {S : pm_S} {y : pm_R} (h : pi_calli j n S = y) (hy : y ≠ .inr (.inr none)) : (n ≤ S.2.2.1.length ∧ ((S.2.2.1.drop n).map (fun v => v.category)).sum ≤ 8) ∧ pm_isr (S.2.2.1.take n).reverse = true ∧ y = .inr (.inl (j, (S.2.2.1.take n).reverse, (S.1, S.2.1, S.2.2.1.drop n, S.2.2.2))) := by
  obtain ⟨pc', ls, st, hh⟩ := S
  obtain ⟨h1, h2⟩ := pm_bifR (show (bif (Nat.ble n st.length && Nat.ble ((st.drop n).map (fun v => v.category)).sum 8) && pm_isr (st.take n).reverse then (.inr (.inl (j, (st.take n).reverse, (pc', ls, st.drop n, hh))) : pm_R) else .inr (.inr none)) = y from h) hy
  rw [Bool.and_eq_true, Bool.and_eq_true] at h1
  exact ⟨⟨Nat.le_of_ble_eq_true h1.1.1, Nat.le_of_ble_eq_true h1.1.2⟩, h1.2, h2.symm⟩
theorem mo_calli (j n : Nat) : pm_MO (pi_calli j n) := by
  intro S
  refine ⟨fun S' q => ?_, fun k as S' q => ?_, fun o q => ?_⟩
  · exact nomatch (pi_calli_inv q (fun h => nomatch h)).2.2
  · have h := (pi_calli_inv q (fun h => nomatch h)).2.2
    injection h with h; injection h with h; injection h with h1 h2; injection h2 with h2 h3
    rw [h3]
  · exact nomatch (pi_calli_inv q (fun h => nomatch h)).2.2
section PJ
variable {p : Program} {l : Launch} {e : Env} {R : Room} {s : State} {m : MethodId} {args : Array Value} {below : List Frame} {meth : Method} {c : Code} {cc : ByteArray} {D : va_G} {cl : List vw_C} {tys : List (ClassId × FieldType)} {z b : Nat} {aC : Nat → ClassId} {k0 s0 n0 pc : Nat} {xn : Nat → String} {mi : Nat → MethodName × List Cond} {E : pm_O → State → Prop}
theorem ps_irem (hx : p.tables.exec = Jvm.exec) (hb : c.code = cc) (hd : decode cc pc = .ok (.irem, 1)) : pm_G p l e R s m args below meth c D cl z b aC k0 s0 n0 pg_irem pc := by
  intro S S' hpc h
  obtain ⟨pc', ls, st, hh⟩ := S
  have hpc : pc' = pc := hpc
  subst hpc
  rcases st with _ | ⟨v, st⟩
  · exact nomatch (show (none : Option pm_S) = some S' from h)
  cases v <;> try exact nomatch (show (none : Option pm_S) = some S' from h)
  rename_i y
  rcases st with _ | ⟨v, st⟩
  · exact nomatch (show (none : Option pm_S) = some S' from h)
  cases v <;> try exact nomatch (show (none : Option pm_S) = some S' from h)
  rename_i x
  replace h := pm_bif (show (bif !(decide (y = 0)) then some (pc' + 1, ls, .int (x - x / y * y) :: st, hh) else none) = some S' from h)
  obtain ⟨hok, h⟩ := h
  subst h
  intro _ _ Q k H locs LS cells slots hl hq hS hk hs hn
  exact lv_irem hx hb hd (by simpa using hok) (k H locs LS cells slots hl hq hS hk hs hn)
theorem ps_ldcw (hx : p.tables.exec = Jvm.exec) (hb : c.code = cc) {own : String} {index : Nat} {v : Int32} (hown : s.vm.findClass own = some m.cls) (hc : (Jvm.Cond.constant own index v).before args s = true) (hd : decode cc pc = .ok (.ldc_w index, 3)) : pm_G p l e R s m args below meth c D cl z b aC k0 s0 n0 (pg_c (.int v) 3) pc := by
  intro S S' hpc h
  obtain ⟨pc', ls, st, hh⟩ := S
  have hpc : pc' = pc := hpc
  subst hpc
  have h := Option.some.inj (show some (pc' + 3, ls, .int v :: st, hh) = some S' from h)
  subst h
  intro _ _ Q k H locs LS cells slots hl hq hS hk hs hn
  exact lv_ldcw hx hb hown hc hd (k H locs LS cells slots hl hq hS hk hs hn)
theorem ps_copy (hx : p.tables.exec = Jvm.exec) (hb : c.code = cc) {own : String} {index : Nat} (hown : s.vm.findClass own = some m.cls) (hlink : (Cond.methodLink own index arraycopyName).before args s = true) (hnat : (Cond.native arraycopyName).before args s = true) (hstat : (Cond.static arraycopyName).before args s = true) (hini : (Cond.initialized "java/lang/System").before args s = true)
    (hK : va_K D cl tys s) (ht : tys[0]? = some (aC 0, .int)) (hf : 1 ≤ R.frames) (hlo : 200 ≤ R.locals) (hd : decode cc pc = .ok (.invokestatic index, 3)) : pm_G p l e R s m args below meth c D cl z b aC k0 s0 n0 pg_copy pc := by
  intro S S' hpc h
  obtain ⟨pc', ls, st, n9, kc, ks, μ⟩ := S
  have hpc : pc' = pc := hpc
  subst hpc
  rcases st with _ | ⟨v, st⟩
  · exact nomatch (show (none : Option pm_S) = some S' from h)
  cases v <;> try exact nomatch (show (none : Option pm_S) = some S' from h)
  rename_i n
  rcases st with _ | ⟨v, st⟩
  · exact nomatch (show (none : Option pm_S) = some S' from h)
  cases v <;> try exact nomatch (show (none : Option pm_S) = some S' from h)
  rename_i dp
  rcases st with _ | ⟨v, st⟩
  · exact nomatch (show (none : Option pm_S) = some S' from h)
  cases v <;> try exact nomatch (show (none : Option pm_S) = some S' from h)
  rename_i a
  rcases st with _ | ⟨v, st⟩
  · exact nomatch (show (none : Option pm_S) = some S' from h)
  cases v <;> try exact nomatch (show (none : Option pm_S) = some S' from h)
  rename_i sp
  rcases st with _ | ⟨v, st⟩
  · exact nomatch (show (none : Option pm_S) = some S' from h)
  cases v <;> try exact nomatch (show (none : Option pm_S) = some S' from h)
  rename_i a0
  unfold pg_copy at h
  dsimp only at h
  generalize hw0 : μ a0 = q0 at h
  generalize hw : μ a = q at h
  split at h
  rotate_left
  · exact nomatch (show (none : Option pm_S) = some S' from h)
  rename_i n0' f n1 g
  replace h := pm_bif h
  obtain ⟨hok, h⟩ := h
  simp only [Bool.and_eq_true, Bool.not_eq_true', decide_eq_false_iff_not] at hok
  obtain ⟨⟨h1, h2, h3⟩, h4, h5, h6⟩ := hok
  have h4 := Nat.le_of_ble_eq_true h4
  have h5 := Nat.le_of_ble_eq_true h5
  have h6 := Nat.le_of_ble_eq_true h6
  subst h
  intro _ _ Q k H locs LS cells slots hl hq hS hk hs hn
  obtain ⟨g1, g2, g3⟩ := hq.alive (a := a0) (by show pm_al (μ a0) = true; rw [hw0]; rfl)
  obtain ⟨e1, e2, e3⟩ := hq.alive (a := a) (by show pm_al (μ a) = true; rw [hw]; rfl)
  rw [show (n9, kc, ks, μ).2.2.2 a0 = .inl (0, n0', .inl f) from hw0] at g3
  rw [show (n9, kc, ks, μ).2.2.2 a = .inl (0, n1, .inl g) from hw] at e3
  show W p l e R s m args below meth c H locs cells slots Q (F0 m pc' LS (.int n :: .int dp :: .ref (pm_t z b a) :: .int sp :: .ref (pm_t z b a0) :: st.map (pm_v z b)))
  rw [g2, e2]
  have e9 : ((st.map (pm_v z b)).map fun v => v.category) = st.map (fun v => v.category) := by rw [List.map_map]; exact List.map_congr_left (fun v _ => pm_v_cat z b v)
  refine va_copyi hx hb (hl.2.1.trans hl.1).symm hown hlink hnat hstat hini hK hq.1 pm_w_D hS a0 a 0 0 g3 e3 ht ht rfl h1 h2 h3 h4 h5 (fun i _ => rfl) hf ?_ hd (fun H1 locs1 hP1 _ hS1 => k H1 locs1 LS cells slots hl (hq.put e1 hP1) hS1 hk hs hn)
  rw [e9]
  have : nativeFrameWords "java/lang/System" "arraycopy" 5 ≤ 150 := by decide +kernel
  omega
/-! ## calls -/
theorem pl_len {y : MethodName} {n : Nat} (h : (parseMethodDescriptor y.desc).map (fun d => d.parameters.length) = some n) {As : List Value} (hA : As.length = n) : ∀ sig, parseMethodDescriptor y.desc = some sig → As.length = sig.parameters.length := by
  intro sig hs
  rw [hs] at h
  rw [hA]
  exact (Option.some.inj h).symm
theorem pl_V (hx : p.tables.exec = Jvm.exec) (hb : c.code = cc) {own C : String} {index : Nat} {y : MethodName} {ws : List Cond} (hown : s.vm.findClass own = some m.cls) (hlink : (Cond.methodLink own index y).before args s = true) (hinst : (Cond.instanceMethod y).before args s = true) (hsel : (Cond.selects C y y).before args s = true)
    (hsig : px_sig s y) (hy : y.cls ≠ "java/lang/invoke/MethodHandle" ∧ y.cls ≠ "java/lang/invoke/VarHandle") (hK : va_K D cl tys s) {ci : Nat} {r : vw_C} (hc : cl[ci]? = some r) (hrC : r.1 = C) {n : Nat} (hlen : (parseMethodDescriptor y.desc).map (fun d => d.parameters.length) = some n) {j : Nat} (hCW : pm_CW s y ws) (hmi : mi j = (y, ws)) (hd : decode cc pc = .ok (.invokevirtual index, 3)) :
    pm_IO p l e R s m args below meth c D cl z b aC k0 s0 n0 mi E (pc, pi_callv j (n + 1) ci) := by
  refine pm_IO.callv hb hd (by rw [hmi]; exact hCW) ?_
  intro S H as rest hpc hq hn hst hisa T locs cells slots LS hT X
  obtain ⟨a, As, cell, e1, e2, h1, h2, h3⟩ := pm_recv hK hc hq hisa hn
  rw [e1, hmi]
  exact px_IV X hx hown hlink hinst hsel hsig hy (by rw [hT]; exact h1) h2 (hrC ▸ h3) rfl (pl_len hlen e2) (by simp) (by rw [hb]; exact hd)
theorem pl_VN (hx : p.tables.exec = Jvm.exec) (hb : c.code = cc) {own C host : String} {index : Nat} {y : MethodName} {ws : List Cond} (hown : s.vm.findClass own = some m.cls) (hlink : (Cond.methodLinkNest own index y host).before args s = true) (hinst : (Cond.instanceMethod y).before args s = true) (hsel : (Cond.selects C y y).before args s = true)
    (hsig : px_sig s y) (hy : y.cls ≠ "java/lang/invoke/MethodHandle" ∧ y.cls ≠ "java/lang/invoke/VarHandle") (hK : va_K D cl tys s) {ci : Nat} {r : vw_C} (hc : cl[ci]? = some r) (hrC : r.1 = C) {n : Nat} (hlen : (parseMethodDescriptor y.desc).map (fun d => d.parameters.length) = some n) {j : Nat} (hCW : pm_CW s y ws) (hmi : mi j = (y, ws)) (hd : decode cc pc = .ok (.invokevirtual index, 3)) :
    pm_IO p l e R s m args below meth c D cl z b aC k0 s0 n0 mi E (pc, pi_callv j (n + 1) ci) := by
  refine pm_IO.callv hb hd (by rw [hmi]; exact hCW) ?_
  intro S H as rest hpc hq hn hst hisa T locs cells slots LS hT X
  obtain ⟨a, As, cell, e1, e2, h1, h2, h3⟩ := pm_recv hK hc hq hisa hn
  rw [e1, hmi]
  exact px_IVN X hx hown hlink hinst hsel hsig hy (by rw [hT]; exact h1) h2 (hrC ▸ h3) rfl (pl_len hlen e2) (by simp) (by rw [hb]; exact hd)
/-- the method is there -/
def pl_nd (s : State) (y : MethodName) : Prop := ∃ mk mt, s.methodNamed? y = some mk ∧ s.vm.method? mk = some mt
theorem pl_S (hx : p.tables.exec = Jvm.exec) (hb : c.code = cc) {own : String} {index : Nat} {y : MethodName} {ws : List Cond} (hown : s.vm.findClass own = some m.cls) (hlink : (Cond.methodLink own index y).before args s = true) (hstat : (Cond.static y).before args s = true) (hini : (Cond.initialized y.cls).before args s = true)
    (hsig : px_sig s y) (hnd : pl_nd s y) (hy : y.cls ≠ "java/lang/invoke/MethodHandle" ∧ y.cls ≠ "java/lang/invoke/VarHandle") {n : Nat} (hlen : (parseMethodDescriptor y.desc).map (fun d => d.parameters.length) = some n) {j : Nat} (hCW : pm_CW s y ws) (hmi : mi j = (y, ws)) (hd : decode cc pc = .ok (.invokestatic index, 3)) :
    pm_IO p l e R s m args below meth c D cl z b aC k0 s0 n0 mi E (pc, pi_call j n) := by
  refine pm_IO.call hb hd (by rw [hmi]; exact hCW) ?_
  intro S H as rest hpc hq hn hst T locs cells slots LS hT X
  obtain ⟨mk, mt, h1, h2⟩ := hnd
  rw [hmi]
  exact px_IS X hx hown hlink h1 h2 hstat hini hsig hy rfl (pl_len hlen (by rw [List.length_map]; exact hn)) rfl (by rw [hb]; exact hd)
theorem pl_SN (hx : p.tables.exec = Jvm.exec) (hb : c.code = cc) {own host : String} {index : Nat} {y : MethodName} {ws : List Cond} (hown : s.vm.findClass own = some m.cls) (hlink : (Cond.methodLinkNest own index y host).before args s = true) (hstat : (Cond.static y).before args s = true) (hini : (Cond.initialized y.cls).before args s = true)
    (hsig : px_sig s y) (hnd : pl_nd s y) (hy : y.cls ≠ "java/lang/invoke/MethodHandle" ∧ y.cls ≠ "java/lang/invoke/VarHandle") {n : Nat} (hlen : (parseMethodDescriptor y.desc).map (fun d => d.parameters.length) = some n) {j : Nat} (hCW : pm_CW s y ws) (hmi : mi j = (y, ws)) (hd : decode cc pc = .ok (.invokestatic index, 3)) :
    pm_IO p l e R s m args below meth c D cl z b aC k0 s0 n0 mi E (pc, pi_call j n) := by
  refine pm_IO.call hb hd (by rw [hmi]; exact hCW) ?_
  intro S H as rest hpc hq hn hst T locs cells slots LS hT X
  obtain ⟨mk, mt, h1, h2⟩ := hnd
  rw [hmi]
  exact px_ISN X hx hown hlink h1 h2 hstat hini hsig hy rfl (pl_len hlen (by rw [List.length_map]; exact hn)) rfl (by rw [hb]; exact hd)
theorem pm_IO.calli {j n : Nat} {ig : Instr} (hb : c.code = cc) (hd : decode cc pc = .ok (ig, 3)) (hCW : pm_CW s (mi j).1 (mi j).2) (h : ∀ (H : Heap) (a : Addr) (As rest : List Value), As.length + 1 = n → pm_CS p l e R s m args below meth c pc (mi j).1 H (.ref a :: As) rest) : pm_IO p l e R s m args below meth c D cl z b aC k0 s0 n0 mi E (pc, pi_calli j n) := by
  refine ⟨fun S S' h1 h2 => (nomatch (pi_calli_inv h2 (fun h => nomatch h)).2.2), fun S j' as S' h1 h2 => ?_, fun S o h1 h2 => (nomatch (pi_calli_inv h2 (fun h => nomatch h)).2.2)⟩
  obtain ⟨⟨q1, q2⟩, q7, q3⟩ := pi_calli_inv h2 (fun h => nomatch h)
  injection q3 with q3; injection q3 with q3; injection q3 with q4 q5; injection q5 with q5 q6
  subst q4; subst q5; subst q6
  have e9 : S.2.2.1 = (S.2.2.1.take n).reverse.reverse ++ S.2.2.1.drop n := by rw [List.reverse_reverse, List.take_append_drop]
  refine ⟨rfl, rfl, e9, rfl, q2, ⟨ig, by rw [show S.1 = pc from h1, hb]; exact hd⟩, hCW, fun H hq => ?_⟩
  rw [show S.1 = pc from h1]
  have hlen : (S.2.2.1.take n).reverse.length = n := by rw [List.length_reverse, List.length_take]; omega
  generalize (S.2.2.1.take n).reverse = as at q7 hlen ⊢
  rcases as with _ | ⟨v, as⟩
  · exact nomatch (show false = true from q7)
  cases v <;> try exact nomatch (show false = true from q7)
  rename_i a
  exact h H (pm_t z b a) (as.map (pm_v z b)) _ (by rw [List.length_map]; exact hlen)
theorem pl_I (hx : p.tables.exec = Jvm.exec) (hb : c.code = cc) {own : String} {index : Nat} {y : MethodName} {ws : List Cond} {bytes : ByteArray} {maxL : Nat} (hown : s.vm.findClass own = some m.cls) (hlink : (Cond.methodLink own index y).before args s = true) (hinst : (Cond.instanceMethod y).before args s = true) (hcode : (Cond.code y bytes maxL none).before args s = true)
    (hy : y.cls ≠ "java/lang/invoke/MethodHandle" ∧ y.cls ≠ "java/lang/invoke/VarHandle") (hy1 : y.name = "<init>") {n : Nat} (hlen : (parseMethodDescriptor y.desc).map (fun d => d.parameters.length) = some n) {j : Nat} (hCW : pm_CW s y ws) (hmi : mi j = (y, ws)) (hd : decode cc pc = .ok (.invokespecial index, 3)) :
    pm_IO p l e R s m args below meth c D cl z b aC k0 s0 n0 mi E (pc, pi_calli j (n + 1)) := by
  refine pm_IO.calli hb hd (by rw [hmi]; exact hCW) ?_
  intro H a As rest hn T locs cells slots LS hT X
  rw [hmi]
  exact px_II X hx hown hy1 hlink hinst hcode hy rfl (pl_len hlen (Nat.succ.inj hn)) (by simp) (by rw [hb]; exact hd)
theorem pl_IN (hx : p.tables.exec = Jvm.exec) (hb : c.code = cc) {own host : String} {index : Nat} {y : MethodName} {ws : List Cond} {bytes : ByteArray} {maxL : Nat} (hown : s.vm.findClass own = some m.cls) (hlink : (Cond.methodLinkNest own index y host).before args s = true) (hinst : (Cond.instanceMethod y).before args s = true) (hcode : (Cond.code y bytes maxL none).before args s = true)
    (hy : y.cls ≠ "java/lang/invoke/MethodHandle" ∧ y.cls ≠ "java/lang/invoke/VarHandle") (hy1 : y.name = "<init>") {n : Nat} (hlen : (parseMethodDescriptor y.desc).map (fun d => d.parameters.length) = some n) {j : Nat} (hCW : pm_CW s y ws) (hmi : mi j = (y, ws)) (hd : decode cc pc = .ok (.invokespecial index, 3)) :
    pm_IO p l e R s m args below meth c D cl z b aC k0 s0 n0 mi E (pc, pi_calli j (n + 1)) := by
  refine pm_IO.calli hb hd (by rw [hmi]; exact hCW) ?_
  intro H a As rest hn T locs cells slots LS hT X
  rw [hmi]
  exact px_IIN X hx hown hy1 hlink hinst hcode hy rfl (pl_len hlen (Nat.succ.inj hn)) (by simp) (by rw [hb]; exact hd)
/-! ## a method's words, from the common list -/
theorem pl_CW {G : List Cond} (hgood : ∀ w ∈ G, goodWord w = true) (hG : ∀ w ∈ G, w.before args s = true) {y : MethodName} {bytes : ByteArray} {maxL : Nat} {ret : Option FieldType} (hc : Cond.code y bytes maxL ret ∈ G) (hi : Cond.initialized y.cls ∈ G) (hm : maxL ≤ 45) : pm_CW s y (.code y bytes maxL ret :: G) := by
  intro U mk a hW hn
  have hw : ∀ w ∈ G, w.before a U = true := fun w h => word_at hW (good_of_word (hgood w h)) (hG w h)
  refine ⟨fun w h => ?_, ?_, hw _ hi⟩
  · rcases List.mem_cons.mp h with rfl | h
    · exact hw _ hc
    · exact hw w h
  · obtain ⟨methY, cY, h1, h2, -, h3, -⟩ := Cond.code_spec hn (hw _ hc)
    exact ⟨methY, cY, h1, h2, by rw [h3]; exact hm⟩
theorem pl_CWW {G : List Cond} (hgood : ∀ w ∈ G, goodWord w = true) (hG : ∀ w ∈ G, w.before args s = true) {y : MethodName} {bytes : ByteArray} {maxL : Nat} {ret : Option FieldType} {hh : List (Nat × Nat × Nat × Nat)} (hc : Cond.codeWith y bytes maxL ret hh ∈ G) (hi : Cond.initialized y.cls ∈ G) (hm : maxL ≤ 45) : pm_CW s y (.codeWith y bytes maxL ret hh :: G) := by
  intro U mk a hW hn
  have hw : ∀ w ∈ G, w.before a U = true := fun w h => word_at hW (good_of_word (hgood w h)) (hG w h)
  refine ⟨fun w h => ?_, ?_, hw _ hi⟩
  · rcases List.mem_cons.mp h with rfl | h
    · exact hw _ hc
    · exact hw w h
  · obtain ⟨m9, methY, cY, hn9, h1, h2, -, h3, -⟩ := Cond.codeWith_spec (hw _ hc)
    cases hn.symm.trans hn9
    exact ⟨methY, cY, h1, h2, by rw [h3]; exact hm⟩
theorem pl_nd.code {y : MethodName} {bytes : ByteArray} {maxL : Nat} {ret : Option FieldType} {a : Array Value} (h : (Cond.code y bytes maxL ret).before a s = true) : pl_nd s y := by
  obtain ⟨mk, hnamed⟩ := Cond.code_named h
  obtain ⟨methM, cM, hmethM, -⟩ := Cond.code_spec hnamed h
  exact ⟨mk, methM, hnamed, hmethM⟩
theorem pl_nd.codeW {y : MethodName} {bytes : ByteArray} {maxL : Nat} {ret : Option FieldType} {hh : List (Nat × Nat × Nat × Nat)} {a : Array Value} (h : (Cond.codeWith y bytes maxL ret hh).before a s = true) : pl_nd s y := by
  obtain ⟨mk, methM, cM, hnamed, hmethM, -⟩ := Cond.codeWith_spec h
  exact ⟨mk, methM, hnamed, hmethM⟩
end PJ
