def pm_IO (p : Program) (l : Launch) (e : Env) (R : Room) (s : State) (m : MethodId) (args : Array Value) (below : List Frame) (meth : Method) (c : Code) (D : va_G) (cl : List vw_C) (z b : Nat) (aC : Nat → ClassId) (k0 s0 n0 : Nat) (mi : Nat → MethodName × List Cond) (E : pm_O → State → Prop) (q : Nat × pm_I) : Prop :=
  (∀ S S' : pm_S, S.1 = q.1 → q.2 S = .inl S' → S'.2.2.2.2.1 ≤ k0 + R.cells → S'.2.2.2.2.2.1 ≤ s0 + R.slots → ∀ Q : State → Prop, pm_W p l e R s m args below meth c D cl z b aC k0 s0 n0 Q S' → pm_W p l e R s m args below meth c D cl z b aC k0 s0 n0 Q S) ∧
  (∀ (S : pm_S) (j : Nat) (as : List Value) (S' : pm_S), S.1 = q.1 → q.2 S = .inr (.inl (j, as, S')) → S'.1 = S.1 ∧ S'.2.1 = S.2.1 ∧ S.2.2.1 = as.reverse ++ S'.2.2.1 ∧ S'.2.2.2 = S.2.2.2 ∧ (S'.2.2.1.map (fun v => v.category)).sum ≤ 8 ∧ (∃ ig, decode c.code S.1 = .ok (ig, 3)) ∧ pm_CW s (mi j).1 (mi j).2 ∧ ∀ H : Heap, pm_Q D cl z b aC S.2.2.2 H → pm_CS p l e R s m args below meth c S.1 (mi j).1 H (as.map (pm_v z b)) (S'.2.2.1.map (pm_v z b))) ∧
  (∀ (S : pm_S) (o : pm_O), S.1 = q.1 → q.2 S = .inr (.inr (some o)) → o.2.2.1 ≤ k0 + R.cells → o.2.2.2.1 ≤ s0 + R.slots → pm_W p l e R s m args below meth c D cl z b aC k0 s0 n0 (E o) S)
theorem pm_look_mem {tbl : List (Nat × pm_I)} {pc : Nat} : (∃ q ∈ tbl, q.1 = pc ∧ pm_look tbl pc = q.2) ∨ pm_look tbl pc = fun _ => .inr (.inr none) := by
  induction tbl with
  | nil => exact Or.inr rfl
  | cons a t ih =>
    by_cases h : a.1 = pc
    · refine Or.inl ⟨a, List.mem_cons_self, h, ?_⟩
      show (bif Nat.beq a.1 pc then a.2 else pm_look t pc) = a.2
      rw [h, Nat.beq_refl]; rfl
    · have e : pm_look (a :: t) pc = pm_look t pc := by
        show (bif Nat.beq a.1 pc then a.2 else pm_look t pc) = pm_look t pc
        cases hb : Nat.beq a.1 pc
        · rfl
        · exact absurd (Nat.eq_of_beq_eq_true hb) h
      rcases ih with ⟨q, h1, h2, h3⟩ | h1
      · exact Or.inl ⟨q, List.mem_cons_of_mem _ h1, h2, e.trans h3⟩
      · exact Or.inr (e.trans h1)
theorem pm_MO.look {tbl : List (Nat × pm_I)} (h : ∀ q ∈ tbl, pm_MO q.2) : pm_MO (fun S => pm_look tbl S.1 S) := by
  intro S
  show (∀ S', pm_look tbl S.1 S = .inl S' → _) ∧ (∀ j as S', pm_look tbl S.1 S = .inr (.inl (j, as, S')) → _) ∧ (∀ o, pm_look tbl S.1 S = .inr (.inr (some o)) → _)
  rcases pm_look_mem (tbl := tbl) (pc := S.1) with ⟨q, h1, h2, h3⟩ | h1
  · rw [h3]; exact h q h1 S
  · rw [h1]
    exact ⟨fun S' q => (nomatch q), fun j as S' q => (nomatch q), fun o q => (nomatch q)⟩
/-- an instruction that only ends, in its own heap or one with a thrown thing more -/
def pm_fin (I : pm_I) : Prop := ∀ S : pm_S, I S = .inr (.inr none) ∨ ∃ o : pm_O, I S = .inr (.inr (some o)) ∧ pm_le S.2.2.2 o.2
theorem pm_MO.fin {I : pm_I} (h : pm_fin I) : pm_MO I := by
  intro S
  rcases h S with h | ⟨o', h, hle⟩
  · rw [h]; exact ⟨fun S' q => (nomatch q), fun j as S' q => (nomatch q), fun o q => (nomatch q)⟩
  · rw [h]; exact ⟨fun S' q => (nomatch q), fun j as S' q => (nomatch q), fun o q => by cases q; exact hle⟩
theorem fin_vret : pm_fin pi_vret := by
  intro S
  obtain ⟨pc', ls, st, hh⟩ := S
  rcases st with _ | ⟨v, st⟩
  · exact Or.inr ⟨_, rfl, pm_le.rf⟩
  · exact Or.inl rfl
theorem fin_iret : pm_fin pi_iret := by
  intro S
  obtain ⟨pc', ls, st, hh⟩ := S
  rcases st with _ | ⟨v, st⟩
  · exact Or.inl rfl
  · cases v <;> try exact Or.inl rfl
    rcases st with _ | ⟨v, st⟩
    · exact Or.inr ⟨_, rfl, pm_le.rf⟩
    · exact Or.inl rfl
theorem fin_aret : pm_fin pi_aret := by
  intro S
  obtain ⟨pc', ls, st, hh⟩ := S
  rcases st with _ | ⟨v, st⟩
  · exact Or.inl rfl
  · cases v <;> try exact Or.inl rfl
    rcases st with _ | ⟨v, st⟩
    · exact Or.inr ⟨_, rfl, pm_le.rf⟩
    · exact Or.inl rfl
theorem fin_zret : pm_fin pi_zret := by
  intro S
  obtain ⟨pc', ls, st, hh⟩ := S
  rcases st with _ | ⟨v, st⟩
  · exact Or.inl rfl
  · cases v <;> try exact Or.inl rfl
    rename_i x
    rcases st with _ | ⟨v, st⟩
    · cases hx : (x == 0 || x == 1)
      · exact Or.inl (by show (bif x == 0 || x == 1 then _ else _) = _; rw [hx]; rfl)
      · exact Or.inr ⟨(.inl (some (.int x)), hh), by show (bif x == 0 || x == 1 then _ else _) = _; rw [hx]; rfl, pm_le.rf⟩
    · exact Or.inl rfl
theorem fin_throw (x : Nat) : pm_fin (pi_throw x) := by
  intro S
  obtain ⟨pc', ls, st, n9, kc, ks, μ⟩ := S
  cases hx : Nat.ble (st.map (fun v => v.category)).sum 8
  · exact Or.inl (by show (bif Nat.ble (st.map (fun v => v.category)).sum 8 then _ else _) = _; rw [hx]; rfl)
  · exact Or.inr ⟨(.inr x, (n9, kc + 1, ks + 6, μ)), by show (bif Nat.ble (st.map (fun v => v.category)).sum 8 then _ else _) = _; rw [hx]; rfl, ⟨Nat.le_succ _, Nat.le_add_right _ _, by show n9 + kc ≤ n9 + (kc + 1); omega⟩⟩
section PQ
variable {p : Program} {l : Launch} {e : Env} {R : Room} {s : State} {m : MethodId} {args : Array Value} {below : List Frame} {meth : Method} {c : Code} {cc : ByteArray} {D : va_G} {cl : List vw_C} {tys : List (ClassId × FieldType)} {z b : Nat} {aC : Nat → ClassId} {k0 s0 n0 pc : Nat} {xn : Nat → String} {mi : Nat → MethodName × List Cond} {E : pm_O → State → Prop}
theorem pm_IO.go {g : pm_S → Option pm_S} (h : pm_G p l e R s m args below meth c D cl z b aC k0 s0 n0 g pc) : pm_IO p l e R s m args below meth c D cl z b aC k0 s0 n0 mi E (pc, pi_go g) :=
  ⟨fun S S' h1 h2 => h S S' h1 (pi_go_inl h2), fun S j as S' h1 h2 => (nomatch (pi_go_no h2)), fun S o h1 h2 => (nomatch (pi_go_no h2))⟩
theorem pm_IO.fin {I : pm_I} (hf : pm_fin I) (h : pm_N p l e R s m args below meth c D cl z b aC k0 s0 n0 E I pc) : pm_IO p l e R s m args below meth c D cl z b aC k0 s0 n0 mi E (pc, I) := by
  refine ⟨fun S S' h1 h2 => ?_, fun S j as S' h1 h2 => ?_, fun S o h1 h2 => h S o h1 h2⟩
  · rcases hf S with q | ⟨o, q, -⟩ <;> exact nomatch (q.symm.trans h2)
  · rcases hf S with q | ⟨o, q, -⟩ <;> exact nomatch (q.symm.trans h2)
/-- a call of a static method or a constructor -/
theorem pm_IO.call {j n : Nat} {ig : Instr} (hb : c.code = cc) (hd : decode cc pc = .ok (ig, 3)) (hCW : pm_CW s (mi j).1 (mi j).2) (h : ∀ (S : pm_S) (H : Heap) (as rest : List Value), S.1 = pc → pm_Q D cl z b aC S.2.2.2 H → as.length = n → S.2.2.1 = as.reverse ++ rest → pm_CS p l e R s m args below meth c pc (mi j).1 H (as.map (pm_v z b)) (rest.map (pm_v z b))) : pm_IO p l e R s m args below meth c D cl z b aC k0 s0 n0 mi E (pc, pi_call j n) := by
  refine ⟨fun S S' h1 h2 => (nomatch (pi_call_inv h2 (fun h => (nomatch h))).2), fun S j' as S' h1 h2 => ?_, fun S o h1 h2 => (nomatch (pi_call_inv h2 (fun h => (nomatch h))).2)⟩
  obtain ⟨⟨q1, q2⟩, q3⟩ := pi_call_inv h2 (fun h => (nomatch h))
  injection q3 with q3; injection q3 with q3; injection q3 with q4 q5; injection q5 with q5 q6
  subst q4; subst q5; subst q6
  have e9 : S.2.2.1 = (S.2.2.1.take n).reverse.reverse ++ S.2.2.1.drop n := by rw [List.reverse_reverse, List.take_append_drop]
  refine ⟨rfl, rfl, e9, rfl, q2, ⟨ig, by rw [show S.1 = pc from h1, hb]; exact hd⟩, hCW, fun H hq => ?_⟩
  rw [show S.1 = pc from h1]
  exact h S H _ _ h1 hq (by rw [List.length_reverse, List.length_take]; omega) e9
theorem pm_IO.callv {j n ci : Nat} {ig : Instr} (hb : c.code = cc) (hd : decode cc pc = .ok (ig, 3)) (hCW : pm_CW s (mi j).1 (mi j).2) (h : ∀ (S : pm_S) (H : Heap) (as rest : List Value), S.1 = pc → pm_Q D cl z b aC S.2.2.2 H → as.length = n → S.2.2.1 = as.reverse ++ rest → pm_isa ci S.2.2.2 as = true → pm_CS p l e R s m args below meth c pc (mi j).1 H (as.map (pm_v z b)) (rest.map (pm_v z b))) : pm_IO p l e R s m args below meth c D cl z b aC k0 s0 n0 mi E (pc, pi_callv j n ci) := by
  refine ⟨fun S S' h1 h2 => (nomatch (pi_callv_inv h2 (fun h => (nomatch h))).2.2), fun S j' as S' h1 h2 => ?_, fun S o h1 h2 => (nomatch (pi_callv_inv h2 (fun h => (nomatch h))).2.2)⟩
  obtain ⟨⟨q1, q2⟩, q7, q3⟩ := pi_callv_inv h2 (fun h => (nomatch h))
  injection q3 with q3; injection q3 with q3; injection q3 with q4 q5; injection q5 with q5 q6
  subst q4; subst q5; subst q6
  have e9 : S.2.2.1 = (S.2.2.1.take n).reverse.reverse ++ S.2.2.1.drop n := by rw [List.reverse_reverse, List.take_append_drop]
  refine ⟨rfl, rfl, e9, rfl, q2, ⟨ig, by rw [show S.1 = pc from h1, hb]; exact hd⟩, hCW, fun H hq => ?_⟩
  rw [show S.1 = pc from h1]
  exact h S H _ _ h1 hq (by rw [List.length_reverse, List.length_take]; omega) e9 q7
/-- the receiver of a call, by its class -/
theorem pm_recv {H : Heap} {h : pm_H} {ci n : Nat} {r : vw_C} {as : List Value} (hK : va_K D cl tys s) (hc : cl[ci]? = some r) (hq : pm_Q D cl z b aC h H) (hi : pm_isa ci h as = true) (hn : as.length = n + 1) :
    ∃ (a : Nat) (As : List Value) (cell : Cell), as.map (pm_v z b) = .ref a :: As ∧ As.length = n ∧ H[a]? = some cell ∧ cell.vm.isStatics = false ∧ s.vm.findClass r.1 = some cell.cls := by
  rcases as with _ | ⟨v, as⟩
  · exact nomatch (show false = true from hi)
  cases v <;> try exact nomatch (show false = true from hi)
  rename_i a
  unfold pm_isa at hi
  dsimp only at hi
  generalize hw : h.2.2.2 a = q at hi
  rcases q with q | ⟨cj, fs⟩
  · exact nomatch (show false = true from hi)
  have hci : cj = ci := Nat.eq_of_beq_eq_true hi
  subst hci
  obtain ⟨h1, h2, h3⟩ := hq.alive (a := a) (by rw [hw]; rfl)
  rw [hw] at h3
  obtain ⟨cell, g1, g2, g3⟩ := va_recv hK hq.1 hc h3
  refine ⟨pm_t z b a, as.map (pm_v z b), cell, rfl, by rw [List.length_map]; exact Nat.succ.inj hn, by rw [h2]; exact g1, g2, g3⟩
theorem pm_B.tbl {M : pm_M} {tbl : List (Nat × pm_I)} (hM : M.1 = fun S => pm_look tbl S.1 S) (h : ∀ q ∈ tbl, pm_IO p l e R s m args below meth c D cl z b aC k0 s0 n0 mi E q)
    (hX : ∀ (pc x : Nat) (ls : pm_L) (h : pm_H) (H : Heap) (locs : List Loc) (LS : Array Slot) (cells slots : Nat) (q : Addr) (ce : Cell) (rest : List Value), pm_LV z b c.maxLocals LS ls → pm_Q D cl z b aC h H → va_S (fun q : Nat => z ≤ q) s.heap H locs → k0 + cells = h.2.1 → s0 + slots = h.2.2.1 → h.1 + k0 ≤ n0 + h.2.1 → H[q]? = some ce → ce.vm = .none → s.vm.findClass (xn x) = some ce.cls →
      (∀ pc' i : Nat, M.2.2 pc x = .inl (pc', i) → ∀ Q : State → Prop, pm_W p l e R s m args below meth c D cl z b aC k0 s0 n0 Q (pc', ls.map (fun _ => none), [], h) → px_X p l e R s m args below meth c H locs cells slots Q (F0 m pc LS rest) q) ∧
      (M.2.2 pc x = .inr true → px_X p l e R s m args below meth c H locs cells slots (E (.inr x, h)) (F0 m pc LS rest) q)) : pm_B p l e R s m args below meth c D cl z b aC k0 s0 n0 xn mi M E := by
  refine ⟨fun S S' hI => ?_, fun S j as S' hI => ?_, fun S o hI => ?_, hX⟩
  all_goals
    rw [hM] at hI
    rcases pm_look_mem (tbl := tbl) (pc := S.1) with ⟨q, h1, h2, h3⟩ | h1
  · exact (h q h1).1 S S' h2.symm (by rw [← h3]; exact hI)
  · exact nomatch (show (Sum.inr (Sum.inr none) : pm_R) = .inl S' from (congrFun h1 S).symm.trans hI)
  · exact (h q h1).2.1 S j as S' h2.symm (by rw [← h3]; exact hI)
  · exact nomatch (show (Sum.inr (Sum.inr none) : pm_R) = .inr (.inl (j, as, S')) from (congrFun h1 S).symm.trans hI)
  · exact (h q h1).2.2 S o h2.symm (by rw [← h3]; exact hI)
  · exact nomatch (show (Sum.inr (Sum.inr none) : pm_R) = .inr (.inr (some o)) from (congrFun h1 S).symm.trans hI)
/-- a method without a table of exceptions passes them on -/
theorem pm_pass (hno : ∀ x ∈ c.exceptionTable.toList, False) (hlocks : meth.locks = false) {x : Nat} {h : pm_H} {H : Heap} {locs : List Loc} {LS : Array Slot} {cells slots : Nat} {q : Addr} {ce : Cell} {rest : List Value} (hq : pm_Q D cl z b aC h H) (hS : va_S (fun q : Nat => z ≤ q) s.heap H locs) (hk : k0 + cells = h.2.1) (hs : s0 + slots = h.2.2.1) (hce : H[q]? = some ce) (hcv : ce.vm = .none) (hcl : s.vm.findClass (xn x) = some ce.cls) :
    px_X p l e R s m args below meth c H locs cells slots (pm_Eo below D cl z b aC xn args s k0 s0 (.inr x, h)) (F0 m pc LS rest) q :=
  px_pass hno hlocks (fun t ht _ => ⟨⟨q, ce, rfl, by rw [ht]; exact hce, hcv, hcl⟩, by rw [ht]; exact hq, hS.F ht⟩) hS.2.2 (by show cells ≤ h.2.1 - k0; omega) (by show slots ≤ h.2.2.1 - s0; omega)
end PQ
/-! the entry -/
theorem pm_sl_len (z b : Nat) (as : List Value) : (lg_sl (as.map (pm_v z b))).length = (pm_sl as).length := by
  induction as with
  | nil => rfl
  | cons v t ih =>
    have e1 : lg_sl ((v :: t).map (pm_v z b)) = (if (pm_v z b v).category = 2 then [.val (pm_v z b v), .second] else [.val (pm_v z b v)]) ++ lg_sl (t.map (pm_v z b)) := by simp [lg_sl]
    have e2 : pm_sl (v :: t) = (bif Nat.beq v.category 2 then some v :: none :: pm_sl t else some v :: pm_sl t) := rfl
    rw [e1, e2, pm_v_cat]
    by_cases hc : v.category = 2
    · rw [if_pos hc, hc]
      simp [ih]
    · have hb : Nat.beq v.category 2 = false := by
        cases q : Nat.beq v.category 2
        · rfl
        · exact absurd (Nat.eq_of_beq_eq_true q) hc
      rw [if_neg hc, hb]
      simp [ih]
theorem pm_sl_mem (z b : Nat) (as : List Value) : ∀ (off i : Nat) (v : Value), (pm_sl as)[i]? = some (some v) → (off + i, pm_v z b v) ∈ lv_args off (as.map (pm_v z b)) := by
  induction as with
  | nil => intro off i v h; simp [pm_sl] at h
  | cons u t ih =>
    intro off i v h
    have e2 : pm_sl (u :: t) = (bif Nat.beq u.category 2 then some u :: none :: pm_sl t else some u :: pm_sl t) := rfl
    rw [e2] at h
    show (off + i, pm_v z b v) ∈ (off, pm_v z b u) :: lv_args (if (pm_v z b u).category = 2 then off + 2 else off + 1) (t.map (pm_v z b))
    rw [pm_v_cat]
    by_cases hc : u.category = 2
    · rw [hc] at h
      rw [if_pos hc]
      have h : (some u :: none :: pm_sl t)[i]? = some (some v) := h
      rcases i with _ | _ | i
      · cases h; exact List.mem_cons_self
      · cases h
      · have h : (pm_sl t)[i]? = some (some v) := h
        have h9 := ih (off + 2) i v h
        rw [show off + (i + 1 + 1) = off + 2 + i by omega]
        exact List.mem_cons_of_mem _ h9
    · have hb : Nat.beq u.category 2 = false := by
        cases q : Nat.beq u.category 2
        · rfl
        · exact absurd (Nat.eq_of_beq_eq_true q) hc
      rw [hb] at h
      rw [if_neg hc]
      have h : (some u :: pm_sl t)[i]? = some (some v) := h
      rcases i with _ | i
      · cases h; exact List.mem_cons_self
      · have h : (pm_sl t)[i]? = some (some v) := h
        have h9 := ih (off + 1) i v h
        rw [show off + (i + 1) = off + 1 + i by omega]
        exact List.mem_cons_of_mem _ h9
theorem pm_ent_LV {z b n : Nat} {as : List Value} {L : pm_L} (h : pm_ent n as = some L) : pm_LV z b n ((lg_sl (as.map (pm_v z b)) ++ List.replicate (n - (lg_sl (as.map (pm_v z b))).length) Slot.unset).toArray) L := by
  obtain ⟨h1, rfl⟩ := pm_bif h
  have h1 := Nat.le_of_ble_eq_true h1
  have hl := lv_entry (as.map (pm_v z b)) (n := n) (by rw [pm_sl_len]; exact h1)
  have e1 : (pm_sl as ++ List.replicate (n - (pm_sl as).length) none).length = n := by rw [List.length_append, List.length_replicate]; omega
  refine ⟨e1, hl.1.trans e1.symm, hl.2.1, fun i v hi => ?_⟩
  have hi9 : (pm_sl as)[i]? = some (some v) := by
    by_cases hil : i < (pm_sl as).length
    · rwa [List.getElem?_append_left hil] at hi
    · rw [List.getElem?_append_right (by omega)] at hi
      have := List.mem_of_getElem? hi
      rw [List.mem_replicate] at this
      exact nomatch this.2
  have h9 := pm_sl_mem z b as 0 i v hi9
  rw [Nat.zero_add] at h9
  exact hl.2.2 _ h9
/-- what a body's context is -/
def pm_cx (p : Program) (s : State) (m : MethodId) (args : Array Value) (meth : Method) (c : Code) (y : MethodName) (cc : ByteArray) (maxL : Nat) (ret : Option FieldType) (ws : List Cond) : Prop :=
  p.tables.exec = Jvm.exec ∧ c.code = cc ∧ c.maxLocals = maxL ∧ meth.sig.returnType = ret ∧ meth.locks = false ∧ meth.name = y.name ∧ s.vm.findClass y.cls = some m.cls ∧ ∀ w ∈ ws, w.before args s = true
set_option maxHeartbeats 4000000 in
theorem pm_okW {l : Launch} {KF : State → Prop} {D : va_G} {cl : List vw_C} {z b : Nat} {aC : Nat → ClassId} {xn : Nat → String} {mi : Nat → MethodName × List Cond} {P : Nat → pm_M} {k : Nat} {y : MethodName} {ws ws' : List Cond} {cc : ByteArray} {maxL : Nat} {ret : Option FieldType}
    (hy : plainName y.cls = true) (hw : ws = .code y cc maxL ret :: ws') (hmi : mi k = (y, ws)) (hent : (P k).2.1 = pm_ent maxL) (hMO : pm_MO (P k).1)
    (hB : ∀ (p : Program) (e : Env) (R : Room) (s : State) (m : MethodId) (args : Array Value) (below : List Frame) (meth : Method) (c : Code) (k0 s0 n0 : Nat), pm_cx p s m args meth c y cc maxL ret ws → (∀ x ∈ c.exceptionTable.toList, False) → KF s → (z ≤ s.heap.size ∧ n0 ≤ k0 ∧ (n0 = k0 → s.heap.size = z + n0)) → 8 ≤ R.frames → 256 ≤ R.locals → pm_B p l e R s m args below meth c D cl z b aC k0 s0 n0 xn mi (P k) (pm_Eo below D cl z b aC xn args s k0 s0)) : pm_Ok l KF D cl z b aC xn mi P k := by
  refine ⟨hMO, fun d as L h o hL hle hrun => ?_⟩
  rw [hent] at hL
  unfold pm_Met
  rw [hmi]
  refine MetFree.of_bodyS (code := cc) (maxLocals := maxL) (ret := ret) hy ?_ ?_
  · intro args s m h hn
    obtain ⟨meth, c, h1, h2, h3, h4, h5, h6, -, -⟩ := Cond.code_spec hn (atoms_spec (ws := ws) h _ (by rw [hw]; exact List.mem_cons_self))
    exact ⟨meth, c, h1, h2, h3, h4, h5, h6⟩
  intro p e s m args below meth c s₁ B hml hv _
  have hh0 : s₁.heap = s.heap := by rw [B.state]; rfl
  have ht : ∀ x ∈ c.exceptionTable.toList, False := by
    obtain ⟨meth9, c9, h1, h2, -, -, -, -, h7, -⟩ := Cond.code_spec B.named (atoms_spec (ws := ws) B.pre _ (by rw [hw]; exact List.mem_cons_self))
    cases Option.some.inj (h1.symm.trans B.method)
    cases Option.some.inj (h2.symm.trans (Stand.of_body B).code)
    intro x hx
    rw [Array.isEmpty_iff.mp h7] at hx
    cases hx
  obtain ⟨rfl, hq, hKF, hz1, hz2, hz3⟩ := hv
  have hts := atoms_spec (ws := ws) B.pre
  have hown : s.vm.findClass y.cls = some m.cls := findClass_of_methodNamed B.named
  have hBB := hB p e (headSpec ws (pm_rm d (o.2.2.1 - h.2.1) (o.2.2.2.1 - h.2.2.1))).room s m (as.map (pm_v z b)).toArray below meth c h.2.1 h.2.2.1 h.1 ⟨B.exec, B.bytes, hml, B.returns, B.notSynchronized, (name_of_methodNamed B.named B.method).1, hown, hts⟩ ht hKF ⟨hz1, hz2, hz3⟩ (show 8 ≤ d + 8 by omega) (show 256 ≤ 64 * d + 256 by omega)
  have hW := hrun p e _ s m _ below meth c ⟨hKF, ⟨hz1, hz2, hz3⟩, Nat.le_refl _, Nat.le_refl _⟩ hBB (show o.2.2.1 ≤ h.2.1 + (o.2.2.1 - h.2.1) by have := hle.1; omega) (show o.2.2.2.1 ≤ h.2.2.1 + (o.2.2.2.1 - h.2.2.1) by have := hle.2.1; omega)
  have hE := hW s.heap [] _ 0 0 (by rw [hml]; exact pm_ent_LV hL) hq va_S.rf rfl rfl (Nat.le_refl _)
  have hE := hE s₁ hh0 (Stand.of_body B)
  have e0 := lg_entry_eq m (as.map (pm_v z b)) maxL
  obtain ⟨t, a1, o1, b1, b2, b3⟩ := hE
  refine ⟨t, o1, ?_, b1, b2, b3⟩
  rw [e0]
  exact a1
/-! runs, by rules -/
theorem pm_mono {P : Nat → pm_M} : ∀ (f d k : Nat) (S : pm_S) (o : pm_O), pm_run P f d k S = some o → ∀ f', f ≤ f' → pm_run P f' d k S = some o := by
  intro f
  induction f with
  | zero => intro d k S o h; exact nomatch (show (none : Option pm_O) = some o from h)
  | succ f ih =>
    intro d k S o h f' hf
    obtain ⟨g, rfl⟩ : ∃ g, f' = g + 1 := ⟨f' - 1, by omega⟩
    have hg : f ≤ g := by omega
    unfold pm_run at h ⊢
    rcases hI : (P k).1 S with S' | ⟨j, as, S'⟩ | o'
    · rw [hI] at h
      exact ih d k S' o h g hg
    · rw [hI] at h
      (try dsimp only at h); (try dsimp only)
      rcases d with _ | d
      · exact nomatch (show (none : Option pm_O) = some o from h)
      generalize hL : (P j).2.1 as = qL at h
      rcases qL with _ | L
      · exact nomatch (show (none : Option pm_O) = some o from h)
      (try dsimp only at h); (try dsimp only)
      generalize hr : pm_run P f d j (0, L, [], S'.2.2.2) = r at h
      rcases r with _ | ⟨oc, h'⟩
      · exact nomatch (show (none : Option pm_O) = some o from h)
      rw [ih d j _ _ hr g hg]
      (try dsimp only at h); (try dsimp only)
      rcases oc with v | x
      · exact ih (d + 1) k _ o h g hg
      · (try dsimp only at h); (try dsimp only)
        generalize (P k).2.2 S'.1 x = ca at h ⊢
        rcases ca with ⟨pc', i⟩ | bb
        · exact ih (d + 1) k _ o h g hg
        · cases bb <;> exact h
    · rw [hI] at h
      exact h
def pm_ev (P : Nat → pm_M) (d k : Nat) (S : pm_S) (o : pm_O) : Prop := ∃ f, pm_run P f d k S = some o
theorem pm_ev.go {P : Nat → pm_M} {d k : Nat} {S S' : pm_S} {o : pm_O} (h : (P k).1 S = .inl S') (r : pm_ev P d k S' o) : pm_ev P d k S o := by
  obtain ⟨f, r⟩ := r
  exact ⟨f + 1, by unfold pm_run; rw [h]; exact r⟩
theorem pm_ev.fin {P : Nat → pm_M} {d k : Nat} {S : pm_S} {o : pm_O} (h : (P k).1 S = .inr (.inr (some o))) : pm_ev P d k S o := ⟨1, by unfold pm_run; rw [h]⟩
theorem pm_ev.call {P : Nat → pm_M} {d k j : Nat} {as : List Value} {L : pm_L} {S S' : pm_S} {v : Option Value} {h' : pm_H} {o : pm_O} (h : (P k).1 S = .inr (.inl (j, as, S'))) (hL : (P j).2.1 as = some L) (r1 : pm_ev P d j (0, L, [], S'.2.2.2) (.inl v, h')) (r2 : pm_ev P (d + 1) k (S'.1 + 3, S'.2.1, v.toList ++ S'.2.2.1, h') o) : pm_ev P (d + 1) k S o := by
  obtain ⟨f1, r1⟩ := r1
  obtain ⟨f2, r2⟩ := r2
  refine ⟨max f1 f2 + 1, ?_⟩
  unfold pm_run
  rw [h]
  dsimp only
  rw [hL]
  dsimp only
  rw [pm_mono _ _ _ _ _ r1 (max f1 f2) (Nat.le_max_left _ _)]
  exact pm_mono _ _ _ _ _ r2 (max f1 f2) (Nat.le_max_right _ _)
theorem pm_ev.callX {P : Nat → pm_M} {d k j x : Nat} {as : List Value} {L : pm_L} {S S' : pm_S} {h' : pm_H} (h : (P k).1 S = .inr (.inl (j, as, S'))) (hL : (P j).2.1 as = some L) (r1 : pm_ev P d j (0, L, [], S'.2.2.2) (.inr x, h')) (hp : (P k).2.2 S'.1 x = .inr true) : pm_ev P (d + 1) k S (.inr x, h') := by
  obtain ⟨f1, r1⟩ := r1
  refine ⟨f1 + 1, ?_⟩
  unfold pm_run
  rw [h]
  dsimp only
  rw [hL]
  dsimp only
  rw [r1]
  dsimp only
  rw [hp]
theorem pm_ev.callC {P : Nat → pm_M} {d k j x pc i : Nat} {as : List Value} {L : pm_L} {S S' : pm_S} {h' : pm_H} {o : pm_O} (h : (P k).1 S = .inr (.inl (j, as, S'))) (hL : (P j).2.1 as = some L) (r1 : pm_ev P d j (0, L, [], S'.2.2.2) (.inr x, h')) (hp : (P k).2.2 S'.1 x = .inl (pc, i)) (r2 : pm_ev P (d + 1) k (pc, S'.2.1.map (fun _ => none), [], h') o) : pm_ev P (d + 1) k S o := by
  obtain ⟨f1, r1⟩ := r1
  obtain ⟨f2, r2⟩ := r2
  refine ⟨max f1 f2 + 1, ?_⟩
  unfold pm_run
  rw [h]
  dsimp only
  rw [hL]
  dsimp only
  rw [pm_mono _ _ _ _ _ r1 (max f1 f2) (Nat.le_max_left _ _)]
  dsimp only
  rw [hp]
  exact pm_mono _ _ _ _ _ r2 (max f1 f2) (Nat.le_max_right _ _)
/-- n instructions that go on -/
def pm_st (I : pm_I) : Nat → pm_S → Option pm_S
  | 0, S => some S
  | n + 1, S => match I S with
    | .inl S' => pm_st I n S'
    | _ => none
theorem pm_ev.gos {P : Nat → pm_M} {d k : Nat} (n : Nat) {S S' : pm_S} {o : pm_O} (h : pm_st (P k).1 n S = some S') (r : pm_ev P d k S' o) : pm_ev P d k S o := by
  induction n generalizing S with
  | zero => cases h; exact r
  | succ n ih =>
    unfold pm_st at h
    rcases hI : (P k).1 S with S1 | q
    · rw [hI] at h
      exact pm_ev.go hI (ih h)
    · rw [hI] at h
      exact nomatch (show (none : Option pm_S) = some S' from h)
