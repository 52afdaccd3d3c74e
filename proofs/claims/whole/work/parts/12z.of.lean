/-! methods of classes some of whose methods the machine overrides -/
set_option maxHeartbeats 4000000 in
theorem pm_okF {l : Launch} {KF : State → Prop} {D : va_G} {cl : List vw_C} {z b : Nat} {aC : Nat → ClassId} {xn : Nat → String} {mi : Nat → MethodName × List Cond} {P : Nat → pm_M} {k : Nat} {y : MethodName} {ws ws' : List Cond} {cc : ByteArray} {maxL : Nat} {ret : Option FieldType}
    (hy : plainFor y = true) (hw : ws = .code y cc maxL ret :: ws') (hmi : mi k = (y, ws)) (hent : (P k).2.1 = pm_ent maxL) (hMO : pm_MO (P k).1)
    (hB : ∀ (p : Program) (e : Env) (R : Room) (s : State) (m : MethodId) (args : Array Value) (below : List Frame) (meth : Method) (c : Code) (k0 s0 n0 : Nat), pm_cx p s m args meth c y cc maxL ret ws → (∀ x ∈ c.exceptionTable.toList, False) → KF s → (z ≤ s.heap.size ∧ n0 ≤ k0 ∧ (n0 = k0 → s.heap.size = z + n0)) → 8 ≤ R.frames → 256 ≤ R.locals → pm_B p l e R s m args below meth c D cl z b aC k0 s0 n0 xn mi (P k) (pm_Eo below D cl z b aC xn args s k0 s0)) : pm_Ok l KF D cl z b aC xn mi P k := by
  refine ⟨hMO, fun d as L h o hL hle hrun => ?_⟩
  rw [hent] at hL
  unfold pm_Met
  rw [hmi]
  refine MetFree.of_bodySF (code := cc) (maxLocals := maxL) (ret := ret) hy ?_ ?_
  · intro args s m h hn
    obtain ⟨meth, c, h1, h2, h3, h4, h5, h6, -, -⟩ := Cond.code_spec hn (atoms_spec (ws := ws) h _ (by rw [hw]; exact List.mem_cons_self))
    exact ⟨meth, c, h1, h2, h3, h4, h5, h6⟩
  intro p e s m args below meth c s₁ B hml hv _
  have hh0 : s₁.heap = s.heap := by rw [B.state]; rfl
  have ht : ∀ x ∈ c.exceptionTable.toList, False := by
    obtain ⟨meth9, c9, h1, h2, -, -, -, -, h7, -⟩ := Cond.code_spec B.named (atoms_spec (ws := ws) B.pre _ (by rw [hw]; exact List.mem_cons_self))
    cases Option.some.inj (h1.symm.trans B.method)
    cases Option.some.inj (h2.symm.trans (Stand.of_body B).code)
    intro x hx
    rw [Array.isEmpty_iff.mp h7] at hx
    cases hx
  obtain ⟨rfl, hq, hKF, hz1, hz2, hz3⟩ := hv
  have hts := atoms_spec (ws := ws) B.pre
  have hown : s.vm.findClass y.cls = some m.cls := findClass_of_methodNamed B.named
  have hBB := hB p e (headSpec ws (pm_rm d (o.2.2.1 - h.2.1) (o.2.2.2.1 - h.2.2.1))).room s m (as.map (pm_v z b)).toArray below meth c h.2.1 h.2.2.1 h.1 ⟨B.exec, B.bytes, hml, B.returns, B.notSynchronized, (name_of_methodNamed B.named B.method).1, hown, hts⟩ ht hKF ⟨hz1, hz2, hz3⟩ (show 8 ≤ d + 8 by omega) (show 256 ≤ 64 * d + 256 by omega)
  have hW := hrun p e _ s m _ below meth c ⟨hKF, ⟨hz1, hz2, hz3⟩, Nat.le_refl _, Nat.le_refl _⟩ hBB (show o.2.2.1 ≤ h.2.1 + (o.2.2.1 - h.2.1) by have := hle.1; omega) (show o.2.2.2.1 ≤ h.2.2.1 + (o.2.2.2.1 - h.2.2.1) by have := hle.2.1; omega)
  have hE := hW s.heap [] _ 0 0 (by rw [hml]; exact pm_ent_LV hL) hq va_S.rf rfl rfl (Nat.le_refl _)
  have hE := hE s₁ hh0 (Stand.of_body B)
  have e0 := lg_entry_eq m (as.map (pm_v z b)) maxL
  obtain ⟨t, a1, o1, b1, b2, b3⟩ := hE
  refine ⟨t, o1, ?_, b1, b2, b3⟩
  rw [e0]
  exact a1
