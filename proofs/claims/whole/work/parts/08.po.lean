def pm_P (D : va_G) (cl : List vw_C) (z b : Nat) (aC : Nat → ClassId) (xn : Nat → String) (o : pm_O) : State → Outcome → State → Prop := fun st oc t =>
  (match o.1 with
    | .inl v => oc = .returned (v.map (pm_v z b))
    | .inr x => ∃ (q : Addr) (ce : Cell), oc = .threw q ∧ t.heap[q]? = some ce ∧ ce.vm = .none ∧ st.vm.findClass (xn x) = some ce.cls) ∧ pm_Q D cl z b aC o.2 t.heap ∧ va_F (fun q : Nat => z ≤ q) st t
def pm_Eo (below : List Frame) (D : va_G) (cl : List vw_C) (z b : Nat) (aC : Nat → ClassId) (xn : Nat → String) (args : Array Value) (s : State) (k0 s0 : Nat) (o : pm_O) : State → Prop :=
  px_Q below (pm_P D cl z b aC xn o) args s (o.2.2.1 - k0) (o.2.2.2.1 - s0) (fun q : Nat => z ≤ q)
/-- what an instruction that ends owes -/
def pm_N (p : Program) (l : Launch) (e : Env) (R : Room) (s : State) (m : MethodId) (args : Array Value) (below : List Frame) (meth : Method) (c : Code) (D : va_G) (cl : List vw_C) (z b : Nat) (aC : Nat → ClassId) (k0 s0 n0 : Nat) (E : pm_O → State → Prop) (I : pm_I) (pc : Nat) : Prop :=
  ∀ (S : pm_S) (o : pm_O), S.1 = pc → I S = .inr (.inr (some o)) → o.2.2.1 ≤ k0 + R.cells → o.2.2.2.1 ≤ s0 + R.slots → pm_W p l e R s m args below meth c D cl z b aC k0 s0 n0 (E o) S
section PE
variable {p : Program} {l : Launch} {e : Env} {R : Room} {s : State} {m : MethodId} {args : Array Value} {below : List Frame} {meth : Method} {c : Code} {cc : ByteArray} {D : va_G} {cl : List vw_C} {tys : List (ClassId × FieldType)} {z b : Nat} {aC : Nat → ClassId} {k0 s0 n0 pc : Nat} {xn : Nat → String}
theorem ps_iret (hx : p.tables.exec = Jvm.exec) (hb : c.code = cc) (hr : meth.sig.returnType = some .int) (hlocks : meth.locks = false) (hd : decode cc pc = .ok (.ireturn, 1)) : pm_N p l e R s m args below meth c D cl z b aC k0 s0 n0 (pm_Eo below D cl z b aC xn args s k0 s0) pi_iret pc := by
  intro S o hpc h _ _
  obtain ⟨pc', ls, st, hh⟩ := S
  have hpc : pc' = pc := hpc
  subst hpc
  rcases st with _ | ⟨v, st⟩
  · exact nomatch (show (Sum.inr (Sum.inr none) : pm_R) = .inr (.inr (some o)) from h)
  cases v <;> try exact nomatch (show (Sum.inr (Sum.inr none) : pm_R) = .inr (.inr (some o)) from h)
  rename_i x
  rcases st with _ | ⟨v, st⟩
  rotate_left
  · exact nomatch (show (Sum.inr (Sum.inr none) : pm_R) = .inr (.inr (some o)) from h)
  have h9 : o = (.inl (some (.int x)), hh) := by cases (show (Sum.inr (Sum.inr (some (.inl (some (.int x)), hh))) : pm_R) = .inr (.inr (some o)) from h); rfl
  subst h9
  intro H locs LS cells slots hl hq hS hk hs hn
  have e1 : hh.2.1 - k0 = cells := by have q : k0 + cells = hh.2.1 := hk; omega
  have e2 : hh.2.2.1 - s0 = slots := by have q : s0 + slots = hh.2.2.1 := hs; omega
  show W p l e R s m args below meth c H locs cells slots (px_Q below (pm_P D cl z b aC xn (.inl (some (.int x)), hh)) args s (hh.2.1 - k0) (hh.2.2.1 - s0) (fun q : Nat => z ≤ q)) (F0 m pc' LS [.int x])
  rw [e1, e2]
  exact px_ret (W.iret hx hb hr (fun t ht hW => ⟨rfl, by rw [ht]; exact hq, hS.F ht⟩) hS.2.2 hd hlocks)
theorem ps_vret (hx : p.tables.exec = Jvm.exec) (hb : c.code = cc) (hr : meth.sig.returnType = none) (hlocks : meth.locks = false) (hd : decode cc pc = .ok (.return_, 1)) : pm_N p l e R s m args below meth c D cl z b aC k0 s0 n0 (pm_Eo below D cl z b aC xn args s k0 s0) pi_vret pc := by
  intro S o hpc h _ _
  obtain ⟨pc', ls, st, hh⟩ := S
  have hpc : pc' = pc := hpc
  subst hpc
  rcases st with _ | ⟨v, st⟩
  rotate_left
  · exact nomatch (show (Sum.inr (Sum.inr none) : pm_R) = .inr (.inr (some o)) from h)
  have h9 : o = (.inl none, hh) := by cases (show (Sum.inr (Sum.inr (some (.inl none, hh))) : pm_R) = .inr (.inr (some o)) from h); rfl
  subst h9
  intro H locs LS cells slots hl hq hS hk hs hn
  have e1 : hh.2.1 - k0 = cells := by have q : k0 + cells = hh.2.1 := hk; omega
  have e2 : hh.2.2.1 - s0 = slots := by have q : s0 + slots = hh.2.2.1 := hs; omega
  show W p l e R s m args below meth c H locs cells slots (px_Q below (pm_P D cl z b aC xn (.inl none, hh)) args s (hh.2.1 - k0) (hh.2.2.1 - s0) (fun q : Nat => z ≤ q)) (F0 m pc' LS [])
  rw [e1, e2]
  exact px_ret (W.vret hx hb hr (fun t ht hW => ⟨rfl, by rw [ht]; exact hq, hS.F ht⟩) hS.2.2 hd hlocks)
theorem ps_aret (hx : p.tables.exec = Jvm.exec) (hb : c.code = cc) {rt : FieldType} (hr : meth.sig.returnType = some rt) (hrt : (∃ n, rt = .object n) ∨ ∃ t, rt = .array t) (hlocks : meth.locks = false) (hd : decode cc pc = .ok (.areturn, 1)) : pm_N p l e R s m args below meth c D cl z b aC k0 s0 n0 (pm_Eo below D cl z b aC xn args s k0 s0) pi_aret pc := by
  intro S o hpc h _ _
  obtain ⟨pc', ls, st, hh⟩ := S
  have hpc : pc' = pc := hpc
  subst hpc
  rcases st with _ | ⟨v, st⟩
  · exact nomatch (show (Sum.inr (Sum.inr none) : pm_R) = .inr (.inr (some o)) from h)
  cases v <;> try exact nomatch (show (Sum.inr (Sum.inr none) : pm_R) = .inr (.inr (some o)) from h)
  rename_i x
  rcases st with _ | ⟨v, st⟩
  rotate_left
  · exact nomatch (show (Sum.inr (Sum.inr none) : pm_R) = .inr (.inr (some o)) from h)
  have h9 : o = (.inl (some (.ref x)), hh) := by cases (show (Sum.inr (Sum.inr (some (.inl (some (.ref x)), hh))) : pm_R) = .inr (.inr (some o)) from h); rfl
  subst h9
  intro H locs LS cells slots hl hq hS hk hs hn
  have e1 : hh.2.1 - k0 = cells := by have q : k0 + cells = hh.2.1 := hk; omega
  have e2 : hh.2.2.1 - s0 = slots := by have q : s0 + slots = hh.2.2.1 := hs; omega
  show W p l e R s m args below meth c H locs cells slots (px_Q below (pm_P D cl z b aC xn (.inl (some (.ref x)), hh)) args s (hh.2.1 - k0) (hh.2.2.1 - s0) (fun q : Nat => z ≤ q)) (F0 m pc' LS [.ref (pm_t z b x)])
  rw [e1, e2]
  exact px_ret (W.aret hx hb hr hrt (Or.inr ⟨_, rfl⟩) (fun t ht hW => ⟨rfl, by rw [ht]; exact hq, hS.F ht⟩) hS.2.2 hd hlocks)
theorem ps_zret (hx : p.tables.exec = Jvm.exec) (hb : c.code = cc) (hr : meth.sig.returnType = some .boolean) (hlocks : meth.locks = false) (hd : decode cc pc = .ok (.ireturn, 1)) : pm_N p l e R s m args below meth c D cl z b aC k0 s0 n0 (pm_Eo below D cl z b aC xn args s k0 s0) pi_zret pc := by
  intro S o hpc h _ _
  obtain ⟨pc', ls, st, hh⟩ := S
  have hpc : pc' = pc := hpc
  subst hpc
  rcases st with _ | ⟨v, st⟩
  · exact nomatch (show (Sum.inr (Sum.inr none) : pm_R) = .inr (.inr (some o)) from h)
  cases v <;> try exact nomatch (show (Sum.inr (Sum.inr none) : pm_R) = .inr (.inr (some o)) from h)
  rename_i x
  rcases st with _ | ⟨v, st⟩
  rotate_left
  · exact nomatch (show (Sum.inr (Sum.inr none) : pm_R) = .inr (.inr (some o)) from h)
  obtain ⟨hok, h⟩ := pm_bifR (show (bif x == 0 || x == 1 then (.inr (.inr (some (.inl (some (.int x)), hh))) : pm_R) else .inr (.inr none)) = .inr (.inr (some o)) from h) (fun q => (nomatch q))
  have h9 : o = (.inl (some (.int x)), hh) := by cases h; rfl
  subst h9
  intro H locs LS cells slots hl hq hS hk hs hn
  have e1 : hh.2.1 - k0 = cells := by have q : k0 + cells = hh.2.1 := hk; omega
  have e2 : hh.2.2.1 - s0 = slots := by have q : s0 + slots = hh.2.2.1 := hs; omega
  show W p l e R s m args below meth c H locs cells slots (px_Q below (pm_P D cl z b aC xn (.inl (some (.int x)), hh)) args s (hh.2.1 - k0) (hh.2.2.1 - s0) (fun q : Nat => z ≤ q)) (F0 m pc' LS [.int x])
  rw [e1, e2]
  exact px_ret (W.zret hx hb hr (pm_fit_bool (z := z) (b := b) (.int x) hok).1 (fun t ht hW => ⟨rfl, by rw [ht]; exact hq, hS.F ht⟩) hS.2.2 hd hlocks)
theorem pm_Q.kept {D : va_G} {cl : List vw_C} {z b : Nat} {aC : Nat → ClassId} {n kc ks kc' ks' : Nat} {μ : Nat → pm_E} {H H1 : Heap} (q : pm_Q D cl z b aC (n, kc, ks, μ) H) (h : ∀ a : Nat, a < H.size → H1[a]? = H[a]?) : pm_Q D cl z b aC (n, kc', ks', μ) H1 :=
  ⟨va_P.kept q.1 (fun k x hx => h x.1 (q.1 k x hx).lt), q.2.1, q.2.2⟩
theorem ps_throw (hx : p.tables.exec = Jvm.exec) (hb : c.code = cc) (hl9 : l.stackTraces = false) {own cls text : String} {names : List String} {ik is ic sa x : Nat}
    (hown : s.vm.findClass own = some m.cls) (hcls : Bundle.fit cls = true) (hnames : ∀ n ∈ names, Bundle.fit n = true)
    (hk9 : (Cond.classLink own ik cls).before args s = true) (hini : (Cond.initialized cls).before args s = true) (hstr : vk_R own is text sa s)
    (hat : ∀ U : State, U.vm = s.vm → (∀ q : Nat, q < s.heap.size → q < z → U.heap[q]? = s.heap[q]?) → ∀ w ∈ Bundle.ownAtoms own ic cls names, w.before args U = true) (hxn : xn x = cls) (hlen : names.length ≤ 4) (hf : 8 ≤ R.frames) (hlo : 256 ≤ R.locals)
    (hout : ∀ y ∈ c.exceptionTable.toList, False) (hlocks : meth.locks = false)
    (d0 : decode cc pc = .ok (.new ik, 3)) (d3 : decode cc (pc + 3) = .ok (.dup, 1)) (d4 : decode cc (pc + 4) = .ok (.ldc is, 2)) (d6 : decode cc (pc + 6) = .ok (.invokespecial ic, 3)) (d9 : decode cc (pc + 9) = .ok (.athrow, 1)) :
    pm_N p l e R s m args below meth c D cl z b aC k0 s0 n0 (pm_Eo below D cl z b aC xn args s k0 s0) (pi_throw x) pc := by
  intro S o hpc h hc9 hs9
  obtain ⟨pc', ls, st, n9, kc, ks, μ⟩ := S
  have hpc : pc' = pc := hpc
  subst hpc
  obtain ⟨hok, h⟩ := pm_bifR (show (bif Nat.ble (st.map (fun v => v.category)).sum 8 then (.inr (.inr (some (.inr x, (n9, kc + 1, ks + 6, μ)))) : pm_R) else .inr (.inr none)) = .inr (.inr (some o)) from h) (fun q => (nomatch q))
  have h9 : o = (.inr x, (n9, kc + 1, ks + 6, μ)) := by cases h; rfl
  subst h9
  have hok := Nat.le_of_ble_eq_true hok
  have hc9 : kc + 1 ≤ k0 + R.cells := hc9
  have hs9 : ks + 6 ≤ s0 + R.slots := hs9
  intro H locs LS cells slots hl hq hS hk hs hn
  have hk : k0 + cells = kc := hk
  have hs : s0 + slots = ks := hs
  have e9 : ((st.map (pm_v z b)).map fun v => v.category) = st.map (fun v => v.category) := by rw [List.map_map]; exact List.map_congr_left (fun v _ => pm_v_cat z b v)
  refine px_throw hx hb hl9 hown hcls hnames hk9 hini hstr (fun U hU1 hU2 => hat U hU1 (fun q g1 g2 => by rw [hU2]; exact hS.2.1 q g1 (Nat.not_le.mpr g2))) (hl.2.1.trans hl.1) d0 d3 d4 d6 d9 hout (by omega) ?_ (by omega) (by omega) hlocks (fun t q ce hW h1 h2 hce hcv hcl => ?_) hS.2.2 ?_ ?_
  · rw [e9]; omega
  · exact ⟨⟨q, ce, rfl, hce, hcv, by rw [hxn]; exact hcl⟩, hq.kept h2, ⟨Nat.le_trans hS.1 h1, fun q g1 g2 => (h2 q (Nat.lt_of_lt_of_le g1 hS.1)).trans (hS.2.1 q g1 g2)⟩⟩
  · show cells + 1 ≤ kc + 1 - k0
    omega
  · show slots + 6 ≤ ks + 6 - s0
    omega
end PE
/-! ## the main theorem -/
def pm_rm (d kc ks : Nat) : Room := { frames := d + 8, cells := kc, slots := ks, locals := 64 * d + 256 }
theorem pm_rm_lo (d a b : Nat) : (pm_rm d a b).locals = 64 * d + 256 := rfl
set_option maxRecDepth 20000 in
theorem pm_rm_fit {a L d : Nat} (h1 : a ≤ 45) (h2 : 64 * (d + 1) + 256 ≤ L) : 8 + (a + 11) + (64 * d + 256) ≤ L := by omega
def pm_Pc (KF : State → Prop) (D : va_G) (cl : List vw_C) (z b : Nat) (aC : Nat → ClassId) (h : pm_H) (as : List Value) : Array Value → State → Prop := fun v U =>
  v = (as.map (pm_v z b)).toArray ∧ pm_Q D cl z b aC h U.heap ∧ KF U ∧ z ≤ U.heap.size ∧ h.1 ≤ h.2.1 ∧ (h.1 = h.2.1 → U.heap.size = z + h.1)
def pm_Met (l : Launch) (KF : State → Prop) (D : va_G) (cl : List vw_C) (z b : Nat) (aC : Nat → ClassId) (xn : Nat → String) (y : MethodName) (ws : List Cond) (d : Nat) (as : List Value) (h : pm_H) (o : pm_O) : Prop :=
  px_Met l y ws (pm_rm d (o.2.2.1 - h.2.1) (o.2.2.2.1 - h.2.2.1)) (pm_Pc KF D cl z b aC h as) (pm_P D cl z b aC xn o) (o.2.2.1 - h.2.1) (o.2.2.2.1 - h.2.2.1) (fun q : Nat => z ≤ q)
/-- a call is entered -/
def pm_CS (p : Program) (l : Launch) (e : Env) (R : Room) (s : State) (m : MethodId) (args : Array Value) (below : List Frame) (meth : Method) (c : Code) (pc : Nat) (y : MethodName) (H : Heap) (as rest : List Value) : Prop :=
  ∀ (T : State) (locs : List Loc) (cells slots : Nat) (LS : Array Slot), T.heap = H → Stand p l e R s m args below meth c T locs cells slots → px_I p l e R s m args below meth c locs cells slots y as (F0 m pc LS (as.reverse ++ rest)) rest T
/-- what the callee's words are, in every state that is warmer -/
def pm_CW (s : State) (y : MethodName) (ws : List Cond) : Prop := ∀ (U : State) (mk : MethodId) (a : Array Value), s.WarmedH U.vm → U.methodNamed? y = some mk →
  (∀ w ∈ ws, w.before a U = true) ∧ (∃ methY cY, U.vm.method? mk = some methY ∧ methY.code = some cY ∧ cY.maxLocals ≤ 45) ∧ (Cond.initialized y.cls).before a U = true
/-- all that method k owes in a context: what goes on, calls, ends, exceptions of callees -/
def pm_B (p : Program) (l : Launch) (e : Env) (R : Room) (s : State) (m : MethodId) (args : Array Value) (below : List Frame) (meth : Method) (c : Code) (D : va_G) (cl : List vw_C) (z b : Nat) (aC : Nat → ClassId) (k0 s0 n0 : Nat) (xn : Nat → String) (mi : Nat → MethodName × List Cond) (M : pm_M) (E : pm_O → State → Prop) : Prop :=
  (∀ S S' : pm_S, M.1 S = .inl S' → S'.2.2.2.2.1 ≤ k0 + R.cells → S'.2.2.2.2.2.1 ≤ s0 + R.slots → ∀ Q : State → Prop, pm_W p l e R s m args below meth c D cl z b aC k0 s0 n0 Q S' → pm_W p l e R s m args below meth c D cl z b aC k0 s0 n0 Q S) ∧
  (∀ (S : pm_S) (j : Nat) (as : List Value) (S' : pm_S), M.1 S = .inr (.inl (j, as, S')) → S'.1 = S.1 ∧ S'.2.1 = S.2.1 ∧ S.2.2.1 = as.reverse ++ S'.2.2.1 ∧ S'.2.2.2 = S.2.2.2 ∧ (S'.2.2.1.map (fun v => v.category)).sum ≤ 8 ∧ (∃ ig, decode c.code S.1 = .ok (ig, 3)) ∧ pm_CW s (mi j).1 (mi j).2 ∧ ∀ H : Heap, pm_Q D cl z b aC S.2.2.2 H → pm_CS p l e R s m args below meth c S.1 (mi j).1 H (as.map (pm_v z b)) (S'.2.2.1.map (pm_v z b))) ∧
  (∀ (S : pm_S) (o : pm_O), M.1 S = .inr (.inr (some o)) → o.2.2.1 ≤ k0 + R.cells → o.2.2.2.1 ≤ s0 + R.slots → pm_W p l e R s m args below meth c D cl z b aC k0 s0 n0 (E o) S) ∧
  (∀ (pc x : Nat) (ls : pm_L) (h : pm_H) (H : Heap) (locs : List Loc) (LS : Array Slot) (cells slots : Nat) (q : Addr) (ce : Cell) (rest : List Value), pm_LV z b c.maxLocals LS ls → pm_Q D cl z b aC h H → va_S (fun q : Nat => z ≤ q) s.heap H locs → k0 + cells = h.2.1 → s0 + slots = h.2.2.1 → h.1 + k0 ≤ n0 + h.2.1 → H[q]? = some ce → ce.vm = .none → s.vm.findClass (xn x) = some ce.cls →
    (∀ pc' i : Nat, M.2.2 pc x = .inl (pc', i) → ∀ Q : State → Prop, pm_W p l e R s m args below meth c D cl z b aC k0 s0 n0 Q (pc', ls.map (fun _ => none), [], h) → px_X p l e R s m args below meth c H locs cells slots Q (F0 m pc LS rest) q) ∧
    (M.2.2 pc x = .inr true → px_X p l e R s m args below meth c H locs cells slots (E (.inr x, h)) (F0 m pc LS rest) q))
/-- where a method's body begins -/
def pm_Z (KF : State → Prop) (z n0 k0 d : Nat) (R : Room) (s : State) : Prop := KF s ∧ (z ≤ s.heap.size ∧ n0 ≤ k0 ∧ (n0 = k0 → s.heap.size = z + n0)) ∧ d + 8 ≤ R.frames ∧ 64 * d + 256 ≤ R.locals
/-- a method whose contracts follow from its body's runs -/
def pm_Ok (l : Launch) (KF : State → Prop) (D : va_G) (cl : List vw_C) (z b : Nat) (aC : Nat → ClassId) (xn : Nat → String) (mi : Nat → MethodName × List Cond) (P : Nat → pm_M) (k : Nat) : Prop :=
  pm_MO (P k).1 ∧ ∀ (d : Nat) (as : List Value) (L : pm_L) (h : pm_H) (o : pm_O), (P k).2.1 as = some L → pm_le h o.2 →
    (∀ (p : Program) (e : Env) (R : Room) (s : State) (m : MethodId) (args : Array Value) (below : List Frame) (meth : Method) (c : Code), pm_Z KF z h.1 h.2.1 d R s → pm_B p l e R s m args below meth c D cl z b aC h.2.1 h.2.2.1 h.1 xn mi (P k) (pm_Eo below D cl z b aC xn args s h.2.1 h.2.2.1) → o.2.2.1 ≤ h.2.1 + R.cells → o.2.2.2.1 ≤ h.2.2.1 + R.slots →
      pm_W p l e R s m args below meth c D cl z b aC h.2.1 h.2.2.1 h.1 (pm_Eo below D cl z b aC xn args s h.2.1 h.2.2.1 o) (0, L, [], h)) →
    pm_Met l KF D cl z b aC xn (mi k).1 (mi k).2 d as h o
section PMM
variable {l : Launch} {KF : State → Prop} {D : va_G} {cl : List vw_C} {z b : Nat} {aC : Nat → ClassId} {xn : Nat → String} {mi : Nat → MethodName × List Cond} {P : Nat → pm_M}
theorem pm_keep {H0 H H1 : Heap} {locs L : List Loc} {st t : State} (hS : va_S (fun q : Nat => z ≤ q) H0 H locs) (h0 : st.heap = H) (e1 : H1 = t.heap) (hF : va_F (fun q : Nat => z ≤ q) st t) (hL : ∀ q ∈ L, z ≤ q.base) : va_S (fun q : Nat => z ≤ q) H0 H1 (locs ++ L) := by
  obtain ⟨hz, hk⟩ := hF
  rw [h0] at hz hk
  subst e1
  refine ⟨Nat.le_trans hS.1 hz, fun q h1 h2 => (hk q (Nat.lt_of_lt_of_le h1 hS.1) h2).trans (hS.2.1 q h1 h2), fun q hq => ?_⟩
  rcases List.mem_append.mp hq with h | h
  · exact hS.2.2 q h
  · exact hL q h
set_option maxHeartbeats 4000000 in
theorem pm_main (hKF : ∀ u U : State, u.WarmedH U.vm → (∀ q : Nat, q < u.heap.size → q < z → U.heap[q]? = u.heap[q]?) → KF u → KF U) (hOk : ∀ k, pm_Ok l KF D cl z b aC xn mi P k) :
    ∀ (f d k : Nat) (S : pm_S) (o : pm_O), pm_run P f d k S = some o → pm_le S.2.2.2 o.2 ∧
      ∀ (p : Program) (e : Env) (R : Room) (s : State) (m : MethodId) (args : Array Value) (below : List Frame) (meth : Method) (c : Code) (k0 s0 n0 : Nat) (E : pm_O → State → Prop), pm_Z KF z n0 k0 d R s → pm_B p l e R s m args below meth c D cl z b aC k0 s0 n0 xn mi (P k) E → o.2.2.1 ≤ k0 + R.cells → o.2.2.2.1 ≤ s0 + R.slots → pm_W p l e R s m args below meth c D cl z b aC k0 s0 n0 (E o) S := by
  intro f
  induction f with
  | zero => intro d k S o h; exact nomatch (show (none : Option pm_O) = some o from h)
  | succ f ih =>
    intro d k S o h
    have hMO := (hOk k).1 S
    rcases hI : (P k).1 S with S' | ⟨j, as, S'⟩ | o'
    · have h : pm_run P f d k S' = some o := by
        have h9 := h
        unfold pm_run at h9
        rw [hI] at h9
        exact h9
      obtain ⟨h1, h2⟩ := ih d k S' o h
      have hm := hMO.1 S' hI
      refine ⟨hm.tr h1, fun p e R s m args below meth c k0 s0 n0 E hZ hB hc hs => ?_⟩
      exact hB.1 S S' hI (Nat.le_trans h1.1 hc) (Nat.le_trans h1.2.1 hs) _ (h2 p e R s m args below meth c k0 s0 n0 E hZ hB hc hs)
    · have hh := hMO.2.1 j as S' hI
      unfold pm_run at h
      rw [hI] at h
      dsimp only at h
      rcases d with _ | d
      · exact nomatch (show (none : Option pm_O) = some o from h)
      generalize hL : (P j).2.1 as = qL at h
      rcases qL with _ | L
      · exact nomatch (show (none : Option pm_O) = some o from h)
      dsimp only at h
      generalize hr : pm_run P f d j (0, L, [], S'.2.2.2) = r at h
      rcases r with _ | ⟨oc, h'⟩
      · exact nomatch (show (none : Option pm_O) = some o from h)
      obtain ⟨g0, g2⟩ := ih d j (0, L, [], S'.2.2.2) (oc, h') hr
      have g1 : pm_le S'.2.2.2 h' := g0
      have hM : pm_Met l KF D cl z b aC xn (mi j).1 (mi j).2 d as S'.2.2.2 (oc, h') := (hOk j).2 d as L S'.2.2.2 (oc, h') hL g1 (fun p e R s m args below meth c hZ hB hc hs => g2 p e R s m args below meth c _ _ _ _ hZ hB hc hs)
      rw [hh] at hM g1
      clear g0 g2
      -- the call itself, in a context: to its two ends
      have key : ∀ (p : Program) (e : Env) (R : Room) (s : State) (m : MethodId) (args : Array Value) (below : List Frame) (meth : Method) (c : Code) (k0 s0 n0 : Nat) (E : pm_O → State → Prop), pm_Z KF z n0 k0 (d + 1) R s → pm_B p l e R s m args below meth c D cl z b aC k0 s0 n0 xn mi (P k) E → h'.2.1 ≤ k0 + R.cells → h'.2.2.1 ≤ s0 + R.slots →
          ∀ (Q : State → Prop) (H : Heap) (locs : List Loc) (LS : Array Slot) (cells slots : Nat), pm_LV z b c.maxLocals LS S.2.1 → pm_Q D cl z b aC S.2.2.2 H → va_S (fun q : Nat => z ≤ q) s.heap H locs → k0 + cells = S.2.2.2.2.1 → s0 + slots = S.2.2.2.2.2.1 → S.2.2.2.1 + k0 ≤ n0 + S.2.2.2.2.1 →
          (∀ v, oc = .inl v → ∀ (H1 : Heap) (locs1 : List Loc), pm_Q D cl z b aC h' H1 → va_S (fun q : Nat => z ≤ q) s.heap H1 locs1 → W p l e R s m args below meth c H1 locs1 (cells + (h'.2.1 - S.2.2.2.2.1)) (slots + (h'.2.2.1 - S.2.2.2.2.2.1)) Q (F0 m (S.1 + 3) LS ((v.toList ++ S'.2.2.1).map (pm_v z b)))) →
          (∀ x, oc = .inr x → ∀ (H1 : Heap) (locs1 : List Loc) (q : Addr) (ce : Cell), pm_Q D cl z b aC h' H1 → va_S (fun q : Nat => z ≤ q) s.heap H1 locs1 → H1[q]? = some ce → ce.vm = .none → s.vm.findClass (xn x) = some ce.cls → px_X p l e R s m args below meth c H1 locs1 (cells + (h'.2.1 - S.2.2.2.2.1)) (slots + (h'.2.2.1 - S.2.2.2.2.2.1)) Q (F0 m S.1 LS (S'.2.2.1.map (pm_v z b))) q) →
          W p l e R s m args below meth c H locs cells slots Q (F0 m S.1 LS (S.2.2.1.map (pm_v z b))) := by
        intro p e R s m args below meth c k0 s0 n0 E hZ hB hc hs Q H locs LS cells slots hl hq hS hk hs9 hn kr kx
        obtain ⟨b1, b2, b3, b4, hw8, ⟨ig, hdg⟩, hCW, hCS⟩ := hB.2.1 S j as S' hI
        have hCS := hCS H hq
        obtain ⟨hKFs, hz, hfr, hlo⟩ := hZ
        intro T hT X
        have est : S.2.2.1.map (pm_v z b) = (as.map (pm_v z b)).reverse ++ S'.2.2.1.map (pm_v z b) := by rw [b3, List.map_append, List.map_reverse]
        rw [est]
        obtain ⟨vm₁, mk, X₁, hnm, st⟩ := hCS T locs cells slots LS hT X
        obtain ⟨hws, ⟨methY, cY, hmY, hcY, hmx⟩, hini⟩ := hCW (T.setVm vm₁) mk (as.map (pm_v z b)).toArray X₁.warmed hnm
        have e9 : ((S'.2.2.1.map (pm_v z b)).map fun v => v.category) = S'.2.2.1.map (fun v => v.category) := by rw [List.map_map]; exact List.map_congr_left (fun v _ => pm_v_cat z b v)
        have hp : pm_Pc KF D cl z b aC S.2.2.2 as (as.map (pm_v z b)).toArray ((T.setVm vm₁).calling (F0 m S.1 LS (S'.2.2.1.map (pm_v z b))) mk (as.map (pm_v z b)).toArray) := by
          have hU : ((T.setVm vm₁).calling (F0 m S.1 LS (S'.2.2.1.map (pm_v z b))) mk (as.map (pm_v z b)).toArray).heap = H := hT
          have hW : s.WarmedH ((T.setVm vm₁).calling (F0 m S.1 LS (S'.2.2.1.map (pm_v z b))) mk (as.map (pm_v z b)).toArray).vm := X₁.warmed
          refine ⟨rfl, by rw [hU]; exact hq, hKF s _ hW (fun q g1 g2 => by rw [hU]; exact hS.2.1 q g1 (Nat.not_le.mpr g2)) hKFs, by rw [hU]; exact Nat.le_trans hz.1 hS.1, by have := hz.2.1; omega, fun hd => ?_⟩
          rw [hU]
          obtain ⟨S1, S2, S3, n9, kc, ks, μ⟩ := S
          exact pm_size hq hz hS.1 (by rw [← hT]; exact X.heapSize) hk hn hd
        have r1 : (pm_rm d (h'.2.1 - S.2.2.2.2.1) (h'.2.2.1 - S.2.2.2.2.2.1)).frames + 1 ≤ R.frames := by show d + 8 + 1 ≤ R.frames; omega
        have r2 : 8 + (cY.maxLocals + 11) + (pm_rm d (h'.2.1 - S.2.2.2.2.1) (h'.2.2.1 - S.2.2.2.2.2.1)).locals ≤ R.locals := by rw [pm_rm_lo]; exact pm_rm_fit hmx hlo
        have r3 : cells + (pm_rm d (h'.2.1 - S.2.2.2.2.1) (h'.2.2.1 - S.2.2.2.2.2.1)).cells ≤ R.cells := by show cells + (h'.2.1 - S.2.2.2.2.1) ≤ _; have := g1.1; omega
        have r4 : slots + (pm_rm d (h'.2.1 - S.2.2.2.2.1) (h'.2.2.1 - S.2.2.2.2.2.1)).slots ≤ R.slots := by show slots + (h'.2.2.1 - S.2.2.2.2.2.1) ≤ _; have := g1.2.1; omega
        have r5 : 2 * (F0 m S.1 LS (S'.2.2.1.map (pm_v z b))).monitorRoom + ((F0 m S.1 LS (S'.2.2.1.map (pm_v z b))).stack.map fun v => v.category).sum ≤ 8 := by show 2 * 0 + ((S'.2.2.1.map (pm_v z b)).map fun v => v.category).sum ≤ 8; rw [e9]; omega
        obtain ⟨o9, t, T', L9, hpost, X', hL9, e1, hret, hthr⟩ := px_go X₁ hM (g := F0 m S.1 LS (S'.2.2.1.map (pm_v z b))) rfl (hl.2.1.trans hl.1) hdg r5 hnm hws (bytes := default) (ret := none) ⟨methY, cY, hmY, hcY, rfl⟩ hini r1 r2 r3 r4 hp
        obtain ⟨hoc, hQ', hF⟩ := hpost
        have hS' := pm_keep hS (show ((T.setVm vm₁).calling (F0 m S.1 LS (S'.2.2.1.map (pm_v z b))) mk (as.map (pm_v z b)).toArray).heap = H from hT) e1 hF hL9
        rcases oc with v9 | x
        · have hoc : o9 = .returned (v9.map (pm_v z b)) := hoc
          obtain ⟨t2, a1, b1⟩ := kr v9 rfl T'.heap (locs ++ L9) (by rw [e1]; exact hQ') hS' T' rfl X'
          refine ⟨t2, st _ ((hret _ hoc).trans ?_), b1⟩
          have ev : (v9.map (pm_v z b)).toList ++ S'.2.2.1.map (pm_v z b) = (v9.toList ++ S'.2.2.1).map (pm_v z b) := by rw [List.map_append]; cases v9 <;> rfl
          show Steps p.tables e below (T'.setTop (F0 m (S.1 + 3) LS ((v9.map (pm_v z b)).toList ++ S'.2.2.1.map (pm_v z b)))) t2
          rw [ev]
          exact a1
        · obtain ⟨q, ce, hoc, hce, hcv, hcl⟩ := hoc
          have hcl9 : s.vm.findClass (xn x) = some ce.cls := by
            have h9 : vm₁.findClass (xn x) = some ce.cls := hcl
            rw [(show s.WarmedH vm₁ from X₁.warmed).alike.findClass] at h9
            exact h9
          obtain ⟨t2, a1, b1⟩ := kx x rfl T'.heap (locs ++ L9) q ce (by rw [e1]; exact hQ') hS' (by rw [e1]; exact hce) hcv hcl9 T' rfl X'
          exact ⟨t2, st _ ((hthr q hoc).trans a1), b1⟩
      rcases oc with v | x
      · have h : pm_run P f (d + 1) k (S'.1 + 3, S'.2.1, v.toList ++ S'.2.2.1, h') = some o := h
        obtain ⟨i1, i2⟩ := ih (d + 1) k _ o h
        have i1 : pm_le h' o.2 := i1
        refine ⟨g1.tr i1, fun p e R s m args below meth c k0 s0 n0 E hZ hB hc hs => ?_⟩
        intro H locs LS cells slots hl hq hS hk hs9 hn
        refine key p e R s m args below meth c k0 s0 n0 E hZ hB (Nat.le_trans i1.1 hc) (Nat.le_trans i1.2.1 hs) _ H locs LS cells slots hl hq hS hk hs9 hn (fun v' hv' H1 locs1 hQ1 hS1 => ?_) (fun x hx => (nomatch hx))
        cases hv'
        obtain ⟨b1, b2, b3, b4, -, -, -, -⟩ := hB.2.1 S j as S' hI
        have i2 := i2 p e R s m args below meth c k0 s0 n0 E hZ hB hc hs
        rw [b1, b2] at i2
        have g1a := g1.1
        have g1b := g1.2.1
        have g1c := g1.2.2
        exact i2 H1 locs1 LS _ _ hl hQ1 hS1 (show k0 + (cells + (h'.2.1 - S.2.2.2.2.1)) = h'.2.1 by omega) (show s0 + (slots + (h'.2.2.1 - S.2.2.2.2.2.1)) = h'.2.2.1 by omega) (show h'.1 + k0 ≤ n0 + h'.2.1 by omega)
      · dsimp only at h
        generalize hca : (P k).2.2 S'.1 x = ca at h
        rcases ca with ⟨pc', i⟩ | bb
        · have h : pm_run P f (d + 1) k (pc', S'.2.1.map (fun _ => none), [], h') = some o := h
          obtain ⟨i1, i2⟩ := ih (d + 1) k _ o h
          have i1 : pm_le h' o.2 := i1
          refine ⟨g1.tr i1, fun p e R s m args below meth c k0 s0 n0 E hZ hB hc hs => ?_⟩
          intro H locs LS cells slots hl hq hS hk hs9 hn
          refine key p e R s m args below meth c k0 s0 n0 E hZ hB (Nat.le_trans i1.1 hc) (Nat.le_trans i1.2.1 hs) _ H locs LS cells slots hl hq hS hk hs9 hn (fun v hv => (nomatch hv)) (fun x' hx' H1 locs1 q ce hQ1 hS1 hce hcv hcl => ?_)
          cases hx'
          obtain ⟨b1, b2, b3, b4, -, -, -, -⟩ := hB.2.1 S j as S' hI
          have i2 := i2 p e R s m args below meth c k0 s0 n0 E hZ hB hc hs
          rw [b2] at i2
          rw [b1] at hca
          have g1a := g1.1
          have g1b := g1.2.1
          have g1c := g1.2.2
          exact (hB.2.2.2 S.1 x S.2.1 h' H1 locs1 LS _ _ q ce _ hl hQ1 hS1 (by omega) (by omega) (by omega) hce hcv hcl).1 pc' i hca _ i2
        · cases bb
          · exact nomatch (show (none : Option pm_O) = some o from h)
          · have h := Option.some.inj (show some (.inr x, h') = some o from h)
            subst h
            refine ⟨g1, fun p e R s m args below meth c k0 s0 n0 E hZ hB hc hs => ?_⟩
            intro H locs LS cells slots hl hq hS hk hs9 hn
            refine key p e R s m args below meth c k0 s0 n0 E hZ hB hc hs _ H locs LS cells slots hl hq hS hk hs9 hn (fun v hv => (nomatch hv)) (fun x' hx' H1 locs1 q ce hQ1 hS1 hce hcv hcl => ?_)
            cases hx'
            obtain ⟨b1, b2, b3, b4, -, -, -, -⟩ := hB.2.1 S j as S' hI
            rw [b1] at hca
            have g1a := g1.1
            have g1b := g1.2.1
            have g1c := g1.2.2
            exact (hB.2.2.2 S.1 x S.2.1 h' H1 locs1 LS _ _ q ce _ hl hQ1 hS1 (by omega) (by omega) (by omega) hce hcv hcl).2 hca
    · have h : o' = some o := by
        have h9 := h
        unfold pm_run at h9
        rw [hI] at h9
        exact h9
      subst h
      refine ⟨hMO.2.2 o hI, fun p e R s m args below meth c k0 s0 n0 E hZ hB hc hs => ?_⟩
      exact hB.2.2.1 S o hI hc hs
end PMM
