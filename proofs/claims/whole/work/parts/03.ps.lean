/-! the judgement at a pure state, and what an instruction that goes on owes -/
theorem pm_bif {α : Type} {c : Bool} {x y : α} (h : (bif c then some x else none) = some y) : c = true ∧ x = y := by
  cases c
  · exact nomatch (show (none : Option α) = some y from h)
  · exact ⟨rfl, Option.some.inj h⟩
def pm_W (p : Program) (l : Launch) (e : Env) (R : Room) (s : State) (m : MethodId) (args : Array Value) (below : List Frame) (meth : Method) (c : Code) (D : va_G) (cl : List vw_C) (z b : Nat) (aC : Nat → ClassId) (k0 s0 n0 : Nat) (Q : State → Prop) (S : pm_S) : Prop :=
  ∀ (H : Heap) (locs : List Loc) (LS : Array Slot) (cells slots : Nat), pm_LV z b c.maxLocals LS S.2.1 → pm_Q D cl z b aC S.2.2.2 H → va_S (fun q : Nat => z ≤ q) s.heap H locs → k0 + cells = S.2.2.2.2.1 → s0 + slots = S.2.2.2.2.2.1 → S.2.2.2.1 + k0 ≤ n0 + S.2.2.2.2.1 →
    W p l e R s m args below meth c H locs cells slots Q (F0 m S.1 LS (S.2.2.1.map (pm_v z b)))
def pm_G (p : Program) (l : Launch) (e : Env) (R : Room) (s : State) (m : MethodId) (args : Array Value) (below : List Frame) (meth : Method) (c : Code) (D : va_G) (cl : List vw_C) (z b : Nat) (aC : Nat → ClassId) (k0 s0 n0 : Nat) (g : pm_S → Option pm_S) (pc : Nat) : Prop :=
  ∀ S S' : pm_S, S.1 = pc → g S = some S' →
    (S'.2.2.2.2.1 ≤ k0 + R.cells → S'.2.2.2.2.2.1 ≤ s0 + R.slots → ∀ Q : State → Prop, pm_W p l e R s m args below meth c D cl z b aC k0 s0 n0 Q S' → pm_W p l e R s m args below meth c D cl z b aC k0 s0 n0 Q S)
/-! locals -/
theorem pm_LV.at {z b nL : Nat} {LS : Array Slot} {pl : pm_L} (h : pm_LV z b nL LS pl) {i : Nat} {v : Value} (hi : pl[i]? = some (some v)) : LS[i]? = some (.val (pm_v z b v)) := h.2.2.2 i v hi
def pm_pairs (z b : Nat) (pl : pm_L) : List (Nat × Value) := (List.range pl.length).filterMap (fun i => match pl[i]? with
  | some (some v) => some (i, pm_v z b v)
  | _ => none)
theorem pm_pairs_mem {z b : Nat} {pl : pm_L} {i : Nat} {v : Value} (h : pl[i]? = some (some v)) : (i, pm_v z b v) ∈ pm_pairs z b pl := by
  have hi : i < pl.length := (List.getElem?_eq_some_iff.mp h).1
  exact List.mem_filterMap.mpr ⟨i, List.mem_range.mpr hi, by rw [h]⟩
theorem pm_pairs_inv {z b : Nat} {pl : pm_L} {q : Nat × Value} (h : q ∈ pm_pairs z b pl) : ∃ v : Value, pl[q.1]? = some (some v) ∧ q.2 = pm_v z b v := by
  obtain ⟨i, -, hi⟩ := List.mem_filterMap.mp h
  generalize hw : pl[i]? = w at hi
  rcases w with _ | _ | v
  · exact nomatch (show (none : Option (Nat × Value)) = some q from hi)
  · exact nomatch (show (none : Option (Nat × Value)) = some q from hi)
  · have h9 := Option.some.inj (show some (i, pm_v z b v) = some q from hi)
    subst h9
    exact ⟨v, hw, rfl⟩
theorem pm_LV.has {z b nL : Nat} {LS : Array Slot} {pl : pm_L} (h : pm_LV z b nL LS pl) : lv_has LS pl.length (pm_pairs z b pl) := by
  refine ⟨h.2.1, h.2.2.1, fun q hq => ?_⟩
  obtain ⟨v, h1, h2⟩ := pm_pairs_inv hq
  rw [h2]
  exact h.2.2.2 _ _ h1
theorem pm_ok_lt {pl : pm_L} {i : Nat} (h : pm_ok pl i = true) : i < pl.length := by
  simp only [pm_ok, Bool.and_eq_true, Nat.blt_eq] at h
  exact h.1
theorem pm_ok_cat {z b : Nat} {pl : pm_L} {i j : Nat} {v : Value} (h : pm_ok pl i = true) (hj : j + 1 = i) (hv : pl[j]? = some (some v)) : ¬ (pm_v z b v).category = 2 := by
  simp only [pm_ok, Bool.and_eq_true, Bool.not_eq_true'] at h
  have h2 := h.2
  have e : i - 1 = j := by omega
  have e0 : Nat.blt 0 i = true := by rw [Nat.blt_eq]; omega
  rw [e, hv, e0, Bool.true_and] at h2
  rw [pm_v_cat]
  cases v
  all_goals first | (intro q; exact nomatch (show (1 : Nat) = 2 from q)) | exact nomatch (show true = false from h2)
theorem pm_LV.set1 {z b nL : Nat} {LS : Array Slot} {pl : pm_L} {i : Nat} {x v : Value} (hnL : pl.length = nL) (hok : pm_ok pl i = true) (hx : x = pm_v z b v)
    (h : lv_has LS pl.length ((i, x) :: (pm_pairs z b pl).filter (fun q => !(q.1 == i) && !(q.1 + 1 == i && q.2.category == 2)))) : pm_LV z b nL LS (pl.set i (some v)) := by
  obtain ⟨h1, h2, h3⟩ := h
  refine ⟨by rw [List.length_set]; exact hnL, by rw [List.length_set]; exact h1, h2, fun j w hj => ?_⟩
  by_cases hji : j = i
  · subst hji
    rw [List.getElem?_set_self (pm_ok_lt hok)] at hj
    cases hj
    rw [← hx]
    exact h3 (j, x) List.mem_cons_self
  · rw [List.getElem?_set_ne (Ne.symm hji)] at hj
    refine h3 (j, pm_v z b w) (List.mem_cons_of_mem _ (List.mem_filter.mpr ⟨pm_pairs_mem hj, ?_⟩))
    have a1 : (j == i) = false := by simpa using hji
    have a2 : (j + 1 == i && (pm_v z b w).category == 2) = false := by
      by_cases e : j + 1 = i
      · have := pm_ok_cat (z := z) (b := b) hok e hj
        simp [this]
      · simp [e]
    show (!(j == i) && !(j + 1 == i && (pm_v z b w).category == 2)) = true
    rw [a1, a2]
    rfl
theorem pm_LV.set2 {z b nL : Nat} {LS : Array Slot} {pl : pm_L} {i : Nat} {x v : Value} (hnL : pl.length = nL) (hok : pm_ok pl i = true) (h12 : i + 1 < pl.length) (hx : x = pm_v z b v)
    (h : lv_has LS pl.length ((i, x) :: (pm_pairs z b pl).filter (fun q => !(q.1 == i) && (!(q.1 == i + 1) && !(q.1 + 1 == i && q.2.category == 2))))) : pm_LV z b nL LS ((pl.set (i + 1) none).set i (some v)) := by
  obtain ⟨h1, h2, h3⟩ := h
  refine ⟨by rw [List.length_set, List.length_set]; exact hnL, by rw [List.length_set, List.length_set]; exact h1, h2, fun j w hj => ?_⟩
  by_cases hji : j = i
  · subst hji
    rw [List.getElem?_set_self (by rw [List.length_set]; omega)] at hj
    cases hj
    rw [← hx]
    exact h3 (j, x) List.mem_cons_self
  · rw [List.getElem?_set_ne (Ne.symm hji)] at hj
    by_cases hj2 : j = i + 1
    · subst hj2
      rw [List.getElem?_set_self h12] at hj
      cases hj
    · rw [List.getElem?_set_ne (Ne.symm hj2)] at hj
      refine h3 (j, pm_v z b w) (List.mem_cons_of_mem _ (List.mem_filter.mpr ⟨pm_pairs_mem hj, ?_⟩))
      have a1 : (j == i) = false := by simpa using hji
      have a3 : (j == i + 1) = false := by simpa using hj2
      have a2 : (j + 1 == i && (pm_v z b w).category == 2) = false := by
        by_cases e : j + 1 = i
        · have := pm_ok_cat (z := z) (b := b) hok e hj
          simp [this]
        · simp [e]
      show (!(j == i) && (!(j == i + 1) && !(j + 1 == i && (pm_v z b w).category == 2))) = true
      rw [a1, a2, a3]
      rfl
theorem pm_LV.drop {z b nL : Nat} {LS : Array Slot} {pl : pm_L} {i : Nat} (h : pm_LV z b nL LS pl) : pm_LV z b nL LS (pl.set i none) := by
  refine ⟨by rw [List.length_set]; exact h.1, by rw [List.length_set]; exact h.2.1, h.2.2.1, fun j w hj => ?_⟩
  by_cases hji : j = i
  · subst hji
    by_cases hl : j < pl.length
    · rw [List.getElem?_set_self hl] at hj
      cases hj
    · rw [List.getElem?_eq_none (by rw [List.length_set]; omega)] at hj
      cases hj
  · rw [List.getElem?_set_ne (Ne.symm hji)] at hj
    exact h.2.2.2 j w hj
/-! the heap -/
theorem pm_Q.alive {D : va_G} {cl : List vw_C} {z b : Nat} {aC : Nat → ClassId} {h : pm_H} {H : Heap} (q : pm_Q D cl z b aC h H) {a : Nat} (ha : pm_al (h.2.2.2 a) = true) : a < h.1 ∧ pm_t z b a = z + a ∧ (pm_w z b aC h)[a]? = some (z + a, pm_c z b aC (h.2.2.2 a)) := by
  have h1 := q.2.2 a ha
  have h2 := q.2.1
  exact ⟨h1, pm_t_lt (by omega), pm_w_get h1⟩
theorem pm_Q.put {D : va_G} {cl : List vw_C} {z b : Nat} {aC : Nat → ClassId} {n kc ks : Nat} {μ : Nat → pm_E} {H H1 : Heap} (q : pm_Q D cl z b aC (n, kc, ks, μ) H) {a : Nat} {e : pm_E} (ha : a < n) (hp : va_P D cl ((pm_w z b aC (n, kc, ks, μ)).set a (z + a, pm_c z b aC e)) H1) : pm_Q D cl z b aC (n, kc, ks, va_up μ a e) H1 := by
  rw [pm_w_set e ha] at hp
  refine ⟨hp, q.2.1, fun j hj => ?_⟩
  by_cases hja : j = a
  · subst hja; exact ha
  · refine q.2.2 j ?_
    show pm_al (μ j) = true
    have : va_up μ a e j = μ j := va_up_ne _ _ hja
    rw [← this]; exact hj

section PS
variable {p : Program} {l : Launch} {e : Env} {R : Room} {s : State} {m : MethodId} {args : Array Value} {below : List Frame} {meth : Method} {c : Code} {cc : ByteArray} {D : va_G} {cl : List vw_C} {tys : List (ClassId × FieldType)} {z b : Nat} {aC : Nat → ClassId} {k0 s0 n0 pc : Nat}
theorem ps_iconst (hx : p.tables.exec = Jvm.exec) (hb : c.code = cc) {n : Int} {v : Int32} (hv : Int32.ofInt n = v) (hd : decode cc pc = .ok (.iconst n, 1)) : pm_G p l e R s m args below meth c D cl z b aC k0 s0 n0 (pg_c (.int v) 1) pc := by
  intro S S' hpc h
  obtain ⟨pc', ls, st, hh⟩ := S
  have hpc : pc' = pc := hpc
  subst hpc
  have h := Option.some.inj (show some (pc' + 1, ls, .int v :: st, hh) = some S' from h)
  subst h
  intro _ _ Q k H locs LS cells slots hl hq hS hk hs hn
  exact lv_iconst hx hb hd hv (k H locs LS cells slots hl hq hS hk hs hn)
theorem ps_bipush (hx : p.tables.exec = Jvm.exec) (hb : c.code = cc) {n : Int} {v : Int32} (hv : (Int8.ofInt n).toInt32 = v) (hd : decode cc pc = .ok (.bipush n, 2)) : pm_G p l e R s m args below meth c D cl z b aC k0 s0 n0 (pg_c (.int v) 2) pc := by
  intro S S' hpc h
  obtain ⟨pc', ls, st, hh⟩ := S
  have hpc : pc' = pc := hpc
  subst hpc
  have h := Option.some.inj (show some (pc' + 2, ls, .int v :: st, hh) = some S' from h)
  subst h
  intro _ _ Q k H locs LS cells slots hl hq hS hk hs hn
  exact lv_bipush hx hb hd hv (k H locs LS cells slots hl hq hS hk hs hn)
theorem ps_sipush (hx : p.tables.exec = Jvm.exec) (hb : c.code = cc) {n : Int} {v : Int32} (hv : (Int16.ofInt n).toInt32 = v) (hd : decode cc pc = .ok (.sipush n, 3)) : pm_G p l e R s m args below meth c D cl z b aC k0 s0 n0 (pg_c (.int v) 3) pc := by
  intro S S' hpc h
  obtain ⟨pc', ls, st, hh⟩ := S
  have hpc : pc' = pc := hpc
  subst hpc
  have h := Option.some.inj (show some (pc' + 3, ls, .int v :: st, hh) = some S' from h)
  subst h
  intro _ _ Q k H locs LS cells slots hl hq hS hk hs hn
  exact lv_sipush hx hb hd hv (k H locs LS cells slots hl hq hS hk hs hn)
theorem ps_lconst (hx : p.tables.exec = Jvm.exec) (hb : c.code = cc) {n : Fin 2} {v : Int64} (hv : Int64.ofNat (n : Nat) = v) (hd : decode cc pc = .ok (.lconst n, 1)) : pm_G p l e R s m args below meth c D cl z b aC k0 s0 n0 (pg_c (.long v) 1) pc := by
  intro S S' hpc h
  obtain ⟨pc', ls, st, hh⟩ := S
  have hpc : pc' = pc := hpc
  subst hpc
  have h := Option.some.inj (show some (pc' + 1, ls, .long v :: st, hh) = some S' from h)
  subst h
  intro _ _ Q k H locs LS cells slots hl hq hS hk hs hn
  exact lv_lconst hx hb hd hv (k H locs LS cells slots hl hq hS hk hs hn)
theorem ps_ldc (hx : p.tables.exec = Jvm.exec) (hb : c.code = cc) {own : String} {index : Nat} {v : Int32} (hown : s.vm.findClass own = some m.cls) (hc : (Jvm.Cond.constant own index v).before args s = true) (hd : decode cc pc = .ok (.ldc index, 2)) : pm_G p l e R s m args below meth c D cl z b aC k0 s0 n0 (pg_c (.int v) 2) pc := by
  intro S S' hpc h
  obtain ⟨pc', ls, st, hh⟩ := S
  have hpc : pc' = pc := hpc
  subst hpc
  have h := Option.some.inj (show some (pc' + 2, ls, .int v :: st, hh) = some S' from h)
  subst h
  intro _ _ Q k H locs LS cells slots hl hq hS hk hs hn
  exact lv_ldc hx hb hown hc hd (k H locs LS cells slots hl hq hS hk hs hn)
theorem ps_ldc2 (hx : p.tables.exec = Jvm.exec) (hb : c.code = cc) {own : String} {index : Nat} {v : Int64} (hown : s.vm.findClass own = some m.cls) (hc : (Jvm.Cond.constantLong own index v).before args s = true) (hd : decode cc pc = .ok (.ldc2_w index, 3)) : pm_G p l e R s m args below meth c D cl z b aC k0 s0 n0 (pg_c (.long v) 3) pc := by
  intro S S' hpc h
  obtain ⟨pc', ls, st, hh⟩ := S
  have hpc : pc' = pc := hpc
  subst hpc
  have h := Option.some.inj (show some (pc' + 3, ls, .long v :: st, hh) = some S' from h)
  subst h
  intro _ _ Q k H locs LS cells slots hl hq hS hk hs hn
  exact lv_ldc2 hx hb hown hc hd (k H locs LS cells slots hl hq hS hk hs hn)
theorem ps_iadd (hx : p.tables.exec = Jvm.exec) (hb : c.code = cc) (hd : decode cc pc = .ok (.iadd, 1)) : pm_G p l e R s m args below meth c D cl z b aC k0 s0 n0 (pg_i2 (fun x y => x + y)) pc := by
  intro S S' hpc h
  obtain ⟨pc', ls, st, hh⟩ := S
  have hpc : pc' = pc := hpc
  subst hpc
  rcases st with _ | ⟨v, st⟩
  · exact nomatch (show (none : Option pm_S) = some S' from h)
  cases v <;> try exact nomatch (show (none : Option pm_S) = some S' from h)
  rename_i y
  rcases st with _ | ⟨v, st⟩
  · exact nomatch (show (none : Option pm_S) = some S' from h)
  cases v <;> try exact nomatch (show (none : Option pm_S) = some S' from h)
  rename_i x
  have h := Option.some.inj (show some (pc' + 1, ls, .int (x + y) :: st, hh) = some S' from h)
  subst h
  intro _ _ Q k H locs LS cells slots hl hq hS hk hs hn
  exact lv_iadd hx hb hd (k H locs LS cells slots hl hq hS hk hs hn)
theorem ps_isub (hx : p.tables.exec = Jvm.exec) (hb : c.code = cc) (hd : decode cc pc = .ok (.isub, 1)) : pm_G p l e R s m args below meth c D cl z b aC k0 s0 n0 (pg_i2 (fun x y => x - y)) pc := by
  intro S S' hpc h
  obtain ⟨pc', ls, st, hh⟩ := S
  have hpc : pc' = pc := hpc
  subst hpc
  rcases st with _ | ⟨v, st⟩
  · exact nomatch (show (none : Option pm_S) = some S' from h)
  cases v <;> try exact nomatch (show (none : Option pm_S) = some S' from h)
  rename_i y
  rcases st with _ | ⟨v, st⟩
  · exact nomatch (show (none : Option pm_S) = some S' from h)
  cases v <;> try exact nomatch (show (none : Option pm_S) = some S' from h)
  rename_i x
  have h := Option.some.inj (show some (pc' + 1, ls, .int (x - y) :: st, hh) = some S' from h)
  subst h
  intro _ _ Q k H locs LS cells slots hl hq hS hk hs hn
  exact lv_isub hx hb hd (k H locs LS cells slots hl hq hS hk hs hn)
theorem ps_imul (hx : p.tables.exec = Jvm.exec) (hb : c.code = cc) (hd : decode cc pc = .ok (.imul, 1)) : pm_G p l e R s m args below meth c D cl z b aC k0 s0 n0 (pg_i2 (fun x y => x * y)) pc := by
  intro S S' hpc h
  obtain ⟨pc', ls, st, hh⟩ := S
  have hpc : pc' = pc := hpc
  subst hpc
  rcases st with _ | ⟨v, st⟩
  · exact nomatch (show (none : Option pm_S) = some S' from h)
  cases v <;> try exact nomatch (show (none : Option pm_S) = some S' from h)
  rename_i y
  rcases st with _ | ⟨v, st⟩
  · exact nomatch (show (none : Option pm_S) = some S' from h)
  cases v <;> try exact nomatch (show (none : Option pm_S) = some S' from h)
  rename_i x
  have h := Option.some.inj (show some (pc' + 1, ls, .int (x * y) :: st, hh) = some S' from h)
  subst h
  intro _ _ Q k H locs LS cells slots hl hq hS hk hs hn
  exact lv_imul hx hb hd (k H locs LS cells slots hl hq hS hk hs hn)
theorem ps_iand (hx : p.tables.exec = Jvm.exec) (hb : c.code = cc) (hd : decode cc pc = .ok (.iand, 1)) : pm_G p l e R s m args below meth c D cl z b aC k0 s0 n0 (pg_i2 (fun x y => x &&& y)) pc := by
  intro S S' hpc h
  obtain ⟨pc', ls, st, hh⟩ := S
  have hpc : pc' = pc := hpc
  subst hpc
  rcases st with _ | ⟨v, st⟩
  · exact nomatch (show (none : Option pm_S) = some S' from h)
  cases v <;> try exact nomatch (show (none : Option pm_S) = some S' from h)
  rename_i y
  rcases st with _ | ⟨v, st⟩
  · exact nomatch (show (none : Option pm_S) = some S' from h)
  cases v <;> try exact nomatch (show (none : Option pm_S) = some S' from h)
  rename_i x
  have h := Option.some.inj (show some (pc' + 1, ls, .int (x &&& y) :: st, hh) = some S' from h)
  subst h
  intro _ _ Q k H locs LS cells slots hl hq hS hk hs hn
  exact lv_iand hx hb hd (k H locs LS cells slots hl hq hS hk hs hn)
theorem ps_ior (hx : p.tables.exec = Jvm.exec) (hb : c.code = cc) (hd : decode cc pc = .ok (.ior, 1)) : pm_G p l e R s m args below meth c D cl z b aC k0 s0 n0 (pg_i2 (fun x y => x ||| y)) pc := by
  intro S S' hpc h
  obtain ⟨pc', ls, st, hh⟩ := S
  have hpc : pc' = pc := hpc
  subst hpc
  rcases st with _ | ⟨v, st⟩
  · exact nomatch (show (none : Option pm_S) = some S' from h)
  cases v <;> try exact nomatch (show (none : Option pm_S) = some S' from h)
  rename_i y
  rcases st with _ | ⟨v, st⟩
  · exact nomatch (show (none : Option pm_S) = some S' from h)
  cases v <;> try exact nomatch (show (none : Option pm_S) = some S' from h)
  rename_i x
  have h := Option.some.inj (show some (pc' + 1, ls, .int (x ||| y) :: st, hh) = some S' from h)
  subst h
  intro _ _ Q k H locs LS cells slots hl hq hS hk hs hn
  exact lv_ior hx hb hd (k H locs LS cells slots hl hq hS hk hs hn)
theorem ps_ixor (hx : p.tables.exec = Jvm.exec) (hb : c.code = cc) (hd : decode cc pc = .ok (.ixor, 1)) : pm_G p l e R s m args below meth c D cl z b aC k0 s0 n0 (pg_i2 (fun x y => x ^^^ y)) pc := by
  intro S S' hpc h
  obtain ⟨pc', ls, st, hh⟩ := S
  have hpc : pc' = pc := hpc
  subst hpc
  rcases st with _ | ⟨v, st⟩
  · exact nomatch (show (none : Option pm_S) = some S' from h)
  cases v <;> try exact nomatch (show (none : Option pm_S) = some S' from h)
  rename_i y
  rcases st with _ | ⟨v, st⟩
  · exact nomatch (show (none : Option pm_S) = some S' from h)
  cases v <;> try exact nomatch (show (none : Option pm_S) = some S' from h)
  rename_i x
  have h := Option.some.inj (show some (pc' + 1, ls, .int (x ^^^ y) :: st, hh) = some S' from h)
  subst h
  intro _ _ Q k H locs LS cells slots hl hq hS hk hs hn
  exact lv_ixor hx hb hd (k H locs LS cells slots hl hq hS hk hs hn)
theorem ps_ishl (hx : p.tables.exec = Jvm.exec) (hb : c.code = cc) (hd : decode cc pc = .ok (.ishl, 1)) : pm_G p l e R s m args below meth c D cl z b aC k0 s0 n0 (pg_i2 (fun x y => x <<< (y &&& 31))) pc := by
  intro S S' hpc h
  obtain ⟨pc', ls, st, hh⟩ := S
  have hpc : pc' = pc := hpc
  subst hpc
  rcases st with _ | ⟨v, st⟩
  · exact nomatch (show (none : Option pm_S) = some S' from h)
  cases v <;> try exact nomatch (show (none : Option pm_S) = some S' from h)
  rename_i y
  rcases st with _ | ⟨v, st⟩
  · exact nomatch (show (none : Option pm_S) = some S' from h)
  cases v <;> try exact nomatch (show (none : Option pm_S) = some S' from h)
  rename_i x
  have h := Option.some.inj (show some (pc' + 1, ls, .int (x <<< (y &&& 31)) :: st, hh) = some S' from h)
  subst h
  intro _ _ Q k H locs LS cells slots hl hq hS hk hs hn
  exact lv_ishl hx hb hd (k H locs LS cells slots hl hq hS hk hs hn)
theorem ps_ishr (hx : p.tables.exec = Jvm.exec) (hb : c.code = cc) (hd : decode cc pc = .ok (.ishr, 1)) : pm_G p l e R s m args below meth c D cl z b aC k0 s0 n0 (pg_i2 (fun x y => x >>> (y &&& 31))) pc := by
  intro S S' hpc h
  obtain ⟨pc', ls, st, hh⟩ := S
  have hpc : pc' = pc := hpc
  subst hpc
  rcases st with _ | ⟨v, st⟩
  · exact nomatch (show (none : Option pm_S) = some S' from h)
  cases v <;> try exact nomatch (show (none : Option pm_S) = some S' from h)
  rename_i y
  rcases st with _ | ⟨v, st⟩
  · exact nomatch (show (none : Option pm_S) = some S' from h)
  cases v <;> try exact nomatch (show (none : Option pm_S) = some S' from h)
  rename_i x
  have h := Option.some.inj (show some (pc' + 1, ls, .int (x >>> (y &&& 31)) :: st, hh) = some S' from h)
  subst h
  intro _ _ Q k H locs LS cells slots hl hq hS hk hs hn
  exact lv_ishr hx hb hd (k H locs LS cells slots hl hq hS hk hs hn)
theorem ps_iushr (hx : p.tables.exec = Jvm.exec) (hb : c.code = cc) (hd : decode cc pc = .ok (.iushr, 1)) : pm_G p l e R s m args below meth c D cl z b aC k0 s0 n0 (pg_i2 (fun x y => (x.toUInt32 >>> (y.toUInt32 &&& Int32.toUInt32 31)).toInt32)) pc := by
  intro S S' hpc h
  obtain ⟨pc', ls, st, hh⟩ := S
  have hpc : pc' = pc := hpc
  subst hpc
  rcases st with _ | ⟨v, st⟩
  · exact nomatch (show (none : Option pm_S) = some S' from h)
  cases v <;> try exact nomatch (show (none : Option pm_S) = some S' from h)
  rename_i y
  rcases st with _ | ⟨v, st⟩
  · exact nomatch (show (none : Option pm_S) = some S' from h)
  cases v <;> try exact nomatch (show (none : Option pm_S) = some S' from h)
  rename_i x
  have h := Option.some.inj (show some (pc' + 1, ls, .int ((x.toUInt32 >>> (y.toUInt32 &&& Int32.toUInt32 31)).toInt32) :: st, hh) = some S' from h)
  subst h
  intro _ _ Q k H locs LS cells slots hl hq hS hk hs hn
  exact lv_iushr hx hb hd rfl (k H locs LS cells slots hl hq hS hk hs hn)
theorem ps_ineg (hx : p.tables.exec = Jvm.exec) (hb : c.code = cc) (hd : decode cc pc = .ok (.ineg, 1)) : pm_G p l e R s m args below meth c D cl z b aC k0 s0 n0 (pg_i1 (fun x => -x)) pc := by
  intro S S' hpc h
  obtain ⟨pc', ls, st, hh⟩ := S
  have hpc : pc' = pc := hpc
  subst hpc
  rcases st with _ | ⟨v, st⟩
  · exact nomatch (show (none : Option pm_S) = some S' from h)
  cases v <;> try exact nomatch (show (none : Option pm_S) = some S' from h)
  rename_i x
  have h := Option.some.inj (show some (pc' + 1, ls, .int (-x) :: st, hh) = some S' from h)
  subst h
  intro _ _ Q k H locs LS cells slots hl hq hS hk hs hn
  exact lv_ineg hx hb hd (k H locs LS cells slots hl hq hS hk hs hn)
theorem ps_i2b (hx : p.tables.exec = Jvm.exec) (hb : c.code = cc) (hd : decode cc pc = .ok (.i2b, 1)) : pm_G p l e R s m args below meth c D cl z b aC k0 s0 n0 (pg_i1 (fun x => x.toInt8.toInt32)) pc := by
  intro S S' hpc h
  obtain ⟨pc', ls, st, hh⟩ := S
  have hpc : pc' = pc := hpc
  subst hpc
  rcases st with _ | ⟨v, st⟩
  · exact nomatch (show (none : Option pm_S) = some S' from h)
  cases v <;> try exact nomatch (show (none : Option pm_S) = some S' from h)
  rename_i x
  have h := Option.some.inj (show some (pc' + 1, ls, .int (x.toInt8.toInt32) :: st, hh) = some S' from h)
  subst h
  intro _ _ Q k H locs LS cells slots hl hq hS hk hs hn
  exact lv_i2b hx hb hd rfl (k H locs LS cells slots hl hq hS hk hs hn)
theorem ps_i2s (hx : p.tables.exec = Jvm.exec) (hb : c.code = cc) (hd : decode cc pc = .ok (.i2s, 1)) : pm_G p l e R s m args below meth c D cl z b aC k0 s0 n0 (pg_i1 (fun x => x.toInt16.toInt32)) pc := by
  intro S S' hpc h
  obtain ⟨pc', ls, st, hh⟩ := S
  have hpc : pc' = pc := hpc
  subst hpc
  rcases st with _ | ⟨v, st⟩
  · exact nomatch (show (none : Option pm_S) = some S' from h)
  cases v <;> try exact nomatch (show (none : Option pm_S) = some S' from h)
  rename_i x
  have h := Option.some.inj (show some (pc' + 1, ls, .int (x.toInt16.toInt32) :: st, hh) = some S' from h)
  subst h
  intro _ _ Q k H locs LS cells slots hl hq hS hk hs hn
  exact lv_i2s hx hb hd rfl (k H locs LS cells slots hl hq hS hk hs hn)
theorem ps_i2c (hx : p.tables.exec = Jvm.exec) (hb : c.code = cc) (hd : decode cc pc = .ok (.i2c, 1)) : pm_G p l e R s m args below meth c D cl z b aC k0 s0 n0 (pg_i1 (fun x => (x.toUInt32 % 65536).toInt32)) pc := by
  intro S S' hpc h
  obtain ⟨pc', ls, st, hh⟩ := S
  have hpc : pc' = pc := hpc
  subst hpc
  rcases st with _ | ⟨v, st⟩
  · exact nomatch (show (none : Option pm_S) = some S' from h)
  cases v <;> try exact nomatch (show (none : Option pm_S) = some S' from h)
  rename_i x
  have h := Option.some.inj (show some (pc' + 1, ls, .int ((x.toUInt32 % 65536).toInt32) :: st, hh) = some S' from h)
  subst h
  intro _ _ Q k H locs LS cells slots hl hq hS hk hs hn
  exact lv_i2c hx hb hd rfl (k H locs LS cells slots hl hq hS hk hs hn)
theorem ps_ladd (hx : p.tables.exec = Jvm.exec) (hb : c.code = cc) (hd : decode cc pc = .ok (.ladd, 1)) : pm_G p l e R s m args below meth c D cl z b aC k0 s0 n0 (pg_l2 (fun x y => x + y)) pc := by
  intro S S' hpc h
  obtain ⟨pc', ls, st, hh⟩ := S
  have hpc : pc' = pc := hpc
  subst hpc
  rcases st with _ | ⟨v, st⟩
  · exact nomatch (show (none : Option pm_S) = some S' from h)
  cases v <;> try exact nomatch (show (none : Option pm_S) = some S' from h)
  rename_i y
  rcases st with _ | ⟨v, st⟩
  · exact nomatch (show (none : Option pm_S) = some S' from h)
  cases v <;> try exact nomatch (show (none : Option pm_S) = some S' from h)
  rename_i x
  have h := Option.some.inj (show some (pc' + 1, ls, .long (x + y) :: st, hh) = some S' from h)
  subst h
  intro _ _ Q k H locs LS cells slots hl hq hS hk hs hn
  exact lv_ladd hx hb hd (k H locs LS cells slots hl hq hS hk hs hn)
theorem ps_lsub (hx : p.tables.exec = Jvm.exec) (hb : c.code = cc) (hd : decode cc pc = .ok (.lsub, 1)) : pm_G p l e R s m args below meth c D cl z b aC k0 s0 n0 (pg_l2 (fun x y => x - y)) pc := by
  intro S S' hpc h
  obtain ⟨pc', ls, st, hh⟩ := S
  have hpc : pc' = pc := hpc
  subst hpc
  rcases st with _ | ⟨v, st⟩
  · exact nomatch (show (none : Option pm_S) = some S' from h)
  cases v <;> try exact nomatch (show (none : Option pm_S) = some S' from h)
  rename_i y
  rcases st with _ | ⟨v, st⟩
  · exact nomatch (show (none : Option pm_S) = some S' from h)
  cases v <;> try exact nomatch (show (none : Option pm_S) = some S' from h)
  rename_i x
  have h := Option.some.inj (show some (pc' + 1, ls, .long (x - y) :: st, hh) = some S' from h)
  subst h
  intro _ _ Q k H locs LS cells slots hl hq hS hk hs hn
  exact lv_lsub hx hb hd (k H locs LS cells slots hl hq hS hk hs hn)
theorem ps_land (hx : p.tables.exec = Jvm.exec) (hb : c.code = cc) (hd : decode cc pc = .ok (.land, 1)) : pm_G p l e R s m args below meth c D cl z b aC k0 s0 n0 (pg_l2 (fun x y => x &&& y)) pc := by
  intro S S' hpc h
  obtain ⟨pc', ls, st, hh⟩ := S
  have hpc : pc' = pc := hpc
  subst hpc
  rcases st with _ | ⟨v, st⟩
  · exact nomatch (show (none : Option pm_S) = some S' from h)
  cases v <;> try exact nomatch (show (none : Option pm_S) = some S' from h)
  rename_i y
  rcases st with _ | ⟨v, st⟩
  · exact nomatch (show (none : Option pm_S) = some S' from h)
  cases v <;> try exact nomatch (show (none : Option pm_S) = some S' from h)
  rename_i x
  have h := Option.some.inj (show some (pc' + 1, ls, .long (x &&& y) :: st, hh) = some S' from h)
  subst h
  intro _ _ Q k H locs LS cells slots hl hq hS hk hs hn
  exact lv_land hx hb hd (k H locs LS cells slots hl hq hS hk hs hn)
theorem ps_lor (hx : p.tables.exec = Jvm.exec) (hb : c.code = cc) (hd : decode cc pc = .ok (.lor, 1)) : pm_G p l e R s m args below meth c D cl z b aC k0 s0 n0 (pg_l2 (fun x y => x ||| y)) pc := by
  intro S S' hpc h
  obtain ⟨pc', ls, st, hh⟩ := S
  have hpc : pc' = pc := hpc
  subst hpc
  rcases st with _ | ⟨v, st⟩
  · exact nomatch (show (none : Option pm_S) = some S' from h)
  cases v <;> try exact nomatch (show (none : Option pm_S) = some S' from h)
  rename_i y
  rcases st with _ | ⟨v, st⟩
  · exact nomatch (show (none : Option pm_S) = some S' from h)
  cases v <;> try exact nomatch (show (none : Option pm_S) = some S' from h)
  rename_i x
  have h := Option.some.inj (show some (pc' + 1, ls, .long (x ||| y) :: st, hh) = some S' from h)
  subst h
  intro _ _ Q k H locs LS cells slots hl hq hS hk hs hn
  exact lv_lor hx hb hd (k H locs LS cells slots hl hq hS hk hs hn)
theorem ps_lxor (hx : p.tables.exec = Jvm.exec) (hb : c.code = cc) (hd : decode cc pc = .ok (.lxor, 1)) : pm_G p l e R s m args below meth c D cl z b aC k0 s0 n0 (pg_l2 (fun x y => x ^^^ y)) pc := by
  intro S S' hpc h
  obtain ⟨pc', ls, st, hh⟩ := S
  have hpc : pc' = pc := hpc
  subst hpc
  rcases st with _ | ⟨v, st⟩
  · exact nomatch (show (none : Option pm_S) = some S' from h)
  cases v <;> try exact nomatch (show (none : Option pm_S) = some S' from h)
  rename_i y
  rcases st with _ | ⟨v, st⟩
  · exact nomatch (show (none : Option pm_S) = some S' from h)
  cases v <;> try exact nomatch (show (none : Option pm_S) = some S' from h)
  rename_i x
  have h := Option.some.inj (show some (pc' + 1, ls, .long (x ^^^ y) :: st, hh) = some S' from h)
  subst h
  intro _ _ Q k H locs LS cells slots hl hq hS hk hs hn
  exact lv_lxor hx hb hd (k H locs LS cells slots hl hq hS hk hs hn)
theorem ps_i2l (hx : p.tables.exec = Jvm.exec) (hb : c.code = cc) (hd : decode cc pc = .ok (.i2l, 1)) : pm_G p l e R s m args below meth c D cl z b aC k0 s0 n0 (pg_il (fun x => x.toInt64)) pc := by
  intro S S' hpc h
  obtain ⟨pc', ls, st, hh⟩ := S
  have hpc : pc' = pc := hpc
  subst hpc
  rcases st with _ | ⟨v, st⟩
  · exact nomatch (show (none : Option pm_S) = some S' from h)
  cases v <;> try exact nomatch (show (none : Option pm_S) = some S' from h)
  rename_i x
  have h := Option.some.inj (show some (pc' + 1, ls, .long x.toInt64 :: st, hh) = some S' from h)
  subst h
  intro _ _ Q k H locs LS cells slots hl hq hS hk hs hn
  exact lv_i2l hx hb hd rfl (k H locs LS cells slots hl hq hS hk hs hn)
theorem ps_l2i (hx : p.tables.exec = Jvm.exec) (hb : c.code = cc) (hd : decode cc pc = .ok (.l2i, 1)) : pm_G p l e R s m args below meth c D cl z b aC k0 s0 n0 (pg_li (fun x => x.toInt32)) pc := by
  intro S S' hpc h
  obtain ⟨pc', ls, st, hh⟩ := S
  have hpc : pc' = pc := hpc
  subst hpc
  rcases st with _ | ⟨v, st⟩
  · exact nomatch (show (none : Option pm_S) = some S' from h)
  cases v <;> try exact nomatch (show (none : Option pm_S) = some S' from h)
  rename_i x
  have h := Option.some.inj (show some (pc' + 1, ls, .int x.toInt32 :: st, hh) = some S' from h)
  subst h
  intro _ _ Q k H locs LS cells slots hl hq hS hk hs hn
  exact lv_l2i hx hb hd rfl (k H locs LS cells slots hl hq hS hk hs hn)
theorem ps_lushr (hx : p.tables.exec = Jvm.exec) (hb : c.code = cc) (hd : decode cc pc = .ok (.lushr, 1)) : pm_G p l e R s m args below meth c D cl z b aC k0 s0 n0 (pg_ls (fun x y => (x.toUInt64 >>> (y.toInt64.toUInt64 &&& Int64.toUInt64 63)).toInt64)) pc := by
  intro S S' hpc h
  obtain ⟨pc', ls, st, hh⟩ := S
  have hpc : pc' = pc := hpc
  subst hpc
  rcases st with _ | ⟨v, st⟩
  · exact nomatch (show (none : Option pm_S) = some S' from h)
  cases v <;> try exact nomatch (show (none : Option pm_S) = some S' from h)
  rename_i y
  rcases st with _ | ⟨v, st⟩
  · exact nomatch (show (none : Option pm_S) = some S' from h)
  cases v <;> try exact nomatch (show (none : Option pm_S) = some S' from h)
  rename_i x
  have h := Option.some.inj (show some (pc' + 1, ls, .long ((x.toUInt64 >>> (y.toInt64.toUInt64 &&& Int64.toUInt64 63)).toInt64) :: st, hh) = some S' from h)
  subst h
  intro _ _ Q k H locs LS cells slots hl hq hS hk hs hn
  exact lv_lushr hx hb hd rfl (k H locs LS cells slots hl hq hS hk hs hn)
theorem ps_lshl (hx : p.tables.exec = Jvm.exec) (hb : c.code = cc) (hd : decode cc pc = .ok (.lshl, 1)) : pm_G p l e R s m args below meth c D cl z b aC k0 s0 n0 (pg_ls (fun x y => x <<< (y.toInt64 &&& 63))) pc := by
  intro S S' hpc h
  obtain ⟨pc', ls, st, hh⟩ := S
  have hpc : pc' = pc := hpc
  subst hpc
  rcases st with _ | ⟨v, st⟩
  · exact nomatch (show (none : Option pm_S) = some S' from h)
  cases v <;> try exact nomatch (show (none : Option pm_S) = some S' from h)
  rename_i y
  rcases st with _ | ⟨v, st⟩
  · exact nomatch (show (none : Option pm_S) = some S' from h)
  cases v <;> try exact nomatch (show (none : Option pm_S) = some S' from h)
  rename_i x
  have h := Option.some.inj (show some (pc' + 1, ls, .long (x <<< (y.toInt64 &&& 63)) :: st, hh) = some S' from h)
  subst h
  intro _ _ Q k H locs LS cells slots hl hq hS hk hs hn
  exact lv_lshl hx hb hd rfl (k H locs LS cells slots hl hq hS hk hs hn)
theorem ps_lshr (hx : p.tables.exec = Jvm.exec) (hb : c.code = cc) (hd : decode cc pc = .ok (.lshr, 1)) : pm_G p l e R s m args below meth c D cl z b aC k0 s0 n0 (pg_ls (fun x y => x >>> (y.toInt64 &&& 63))) pc := by
  intro S S' hpc h
  obtain ⟨pc', ls, st, hh⟩ := S
  have hpc : pc' = pc := hpc
  subst hpc
  rcases st with _ | ⟨v, st⟩
  · exact nomatch (show (none : Option pm_S) = some S' from h)
  cases v <;> try exact nomatch (show (none : Option pm_S) = some S' from h)
  rename_i y
  rcases st with _ | ⟨v, st⟩
  · exact nomatch (show (none : Option pm_S) = some S' from h)
  cases v <;> try exact nomatch (show (none : Option pm_S) = some S' from h)
  rename_i x
  have h := Option.some.inj (show some (pc' + 1, ls, .long (x >>> (y.toInt64 &&& 63)) :: st, hh) = some S' from h)
  subst h
  intro _ _ Q k H locs LS cells slots hl hq hS hk hs hn
  exact lv_lshr hx hb hd rfl (k H locs LS cells slots hl hq hS hk hs hn)
theorem ps_lcmp (hx : p.tables.exec = Jvm.exec) (hb : c.code = cc) (hd : decode cc pc = .ok (.lcmp, 1)) : pm_G p l e R s m args below meth c D cl z b aC k0 s0 n0 (pg_ll lg_cmp) pc := by
  intro S S' hpc h
  obtain ⟨pc', ls, st, hh⟩ := S
  have hpc : pc' = pc := hpc
  subst hpc
  rcases st with _ | ⟨v, st⟩
  · exact nomatch (show (none : Option pm_S) = some S' from h)
  cases v <;> try exact nomatch (show (none : Option pm_S) = some S' from h)
  rename_i y
  rcases st with _ | ⟨v, st⟩
  · exact nomatch (show (none : Option pm_S) = some S' from h)
  cases v <;> try exact nomatch (show (none : Option pm_S) = some S' from h)
  rename_i x
  have h := Option.some.inj (show some (pc' + 1, ls, .int (lg_cmp x y) :: st, hh) = some S' from h)
  subst h
  intro _ _ Q k H locs LS cells slots hl hq hS hk hs hn
  exact W.lcmp hx hb hd (k H locs LS cells slots hl hq hS hk hs hn)
theorem ps_goto (hx : p.tables.exec = Jvm.exec) (hb : c.code = cc) {off : Int} {tgt : Nat} (ht : (pc : Int) + off = (tgt : Int)) (hd : decode cc pc = .ok (.goto off, 3)) : pm_G p l e R s m args below meth c D cl z b aC k0 s0 n0 (pg_goto tgt) pc := by
  intro S S' hpc h
  obtain ⟨pc', ls, st, hh⟩ := S
  have hpc : pc' = pc := hpc
  subst hpc
  have h := Option.some.inj (show some (tgt, ls, st, hh) = some S' from h)
  subst h
  intro _ _ Q k H locs LS cells slots hl hq hS hk hs hn
  exact lv_goto hx hb hd ht (k H locs LS cells slots hl hq hS hk hs hn)
theorem ps_if_eq (hx : p.tables.exec = Jvm.exec) (hb : c.code = cc) {off : Int} {tgt : Nat} (ht : (pc : Int) + off = (tgt : Int)) (hd : decode cc pc = .ok (.ifCond .eq off, 3)) : pm_G p l e R s m args below meth c D cl z b aC k0 s0 n0 (pg_if (fun x => decide (x = 0)) tgt) pc := by
  intro S S' hpc h
  obtain ⟨pc', ls, st, hh⟩ := S
  have hpc : pc' = pc := hpc
  subst hpc
  rcases st with _ | ⟨v, st⟩
  · exact nomatch (show (none : Option pm_S) = some S' from h)
  cases v <;> try exact nomatch (show (none : Option pm_S) = some S' from h)
  rename_i x
  have h := Option.some.inj (show some (bif (decide (x = 0)) then tgt else pc' + 3, ls, st, hh) = some S' from h)
  subst h
  intro _ _ Q k H locs LS cells slots hl hq hS hk hs hn
  have k := k H locs LS cells slots hl hq hS hk hs hn
  refine lv_if_eq hx hb hd ht (fun q => ?_) (fun q => ?_)
  · have e9 : (bif (decide (x = 0)) then tgt else pc' + 3) = tgt := by simp [q]
    simp only [e9] at k
    exact k
  · have e9 : (bif (decide (x = 0)) then tgt else pc' + 3) = pc' + 3 := by simp [q]
    simp only [e9] at k
    exact k
theorem ps_if_ne (hx : p.tables.exec = Jvm.exec) (hb : c.code = cc) {off : Int} {tgt : Nat} (ht : (pc : Int) + off = (tgt : Int)) (hd : decode cc pc = .ok (.ifCond .ne off, 3)) : pm_G p l e R s m args below meth c D cl z b aC k0 s0 n0 (pg_if (fun x => !(decide (x = 0))) tgt) pc := by
  intro S S' hpc h
  obtain ⟨pc', ls, st, hh⟩ := S
  have hpc : pc' = pc := hpc
  subst hpc
  rcases st with _ | ⟨v, st⟩
  · exact nomatch (show (none : Option pm_S) = some S' from h)
  cases v <;> try exact nomatch (show (none : Option pm_S) = some S' from h)
  rename_i x
  have h := Option.some.inj (show some (bif (!(decide (x = 0))) then tgt else pc' + 3, ls, st, hh) = some S' from h)
  subst h
  intro _ _ Q k H locs LS cells slots hl hq hS hk hs hn
  have k := k H locs LS cells slots hl hq hS hk hs hn
  refine lv_if_ne hx hb hd ht (fun q => ?_) (fun q => ?_)
  · have e9 : (bif (!(decide (x = 0))) then tgt else pc' + 3) = tgt := by simp [q]
    simp only [e9] at k
    exact k
  · have e9 : (bif (!(decide (x = 0))) then tgt else pc' + 3) = pc' + 3 := by simp [q]
    simp only [e9] at k
    exact k
theorem ps_if_lt (hx : p.tables.exec = Jvm.exec) (hb : c.code = cc) {off : Int} {tgt : Nat} (ht : (pc : Int) + off = (tgt : Int)) (hd : decode cc pc = .ok (.ifCond .lt off, 3)) : pm_G p l e R s m args below meth c D cl z b aC k0 s0 n0 (pg_if (fun x => decide (x < 0)) tgt) pc := by
  intro S S' hpc h
  obtain ⟨pc', ls, st, hh⟩ := S
  have hpc : pc' = pc := hpc
  subst hpc
  rcases st with _ | ⟨v, st⟩
  · exact nomatch (show (none : Option pm_S) = some S' from h)
  cases v <;> try exact nomatch (show (none : Option pm_S) = some S' from h)
  rename_i x
  have h := Option.some.inj (show some (bif (decide (x < 0)) then tgt else pc' + 3, ls, st, hh) = some S' from h)
  subst h
  intro _ _ Q k H locs LS cells slots hl hq hS hk hs hn
  have k := k H locs LS cells slots hl hq hS hk hs hn
  refine lv_if_lt hx hb hd ht (fun q => ?_) (fun q => ?_)
  · have e9 : (bif (decide (x < 0)) then tgt else pc' + 3) = tgt := by simp [q]
    simp only [e9] at k
    exact k
  · have e9 : (bif (decide (x < 0)) then tgt else pc' + 3) = pc' + 3 := by simp [q]
    simp only [e9] at k
    exact k
theorem ps_if_ge (hx : p.tables.exec = Jvm.exec) (hb : c.code = cc) {off : Int} {tgt : Nat} (ht : (pc : Int) + off = (tgt : Int)) (hd : decode cc pc = .ok (.ifCond .ge off, 3)) : pm_G p l e R s m args below meth c D cl z b aC k0 s0 n0 (pg_if (fun x => decide (0 ≤ x)) tgt) pc := by
  intro S S' hpc h
  obtain ⟨pc', ls, st, hh⟩ := S
  have hpc : pc' = pc := hpc
  subst hpc
  rcases st with _ | ⟨v, st⟩
  · exact nomatch (show (none : Option pm_S) = some S' from h)
  cases v <;> try exact nomatch (show (none : Option pm_S) = some S' from h)
  rename_i x
  have h := Option.some.inj (show some (bif (decide (0 ≤ x)) then tgt else pc' + 3, ls, st, hh) = some S' from h)
  subst h
  intro _ _ Q k H locs LS cells slots hl hq hS hk hs hn
  have k := k H locs LS cells slots hl hq hS hk hs hn
  refine lv_if_ge hx hb hd ht (fun q => ?_) (fun q => ?_)
  · have e9 : (bif (decide (0 ≤ x)) then tgt else pc' + 3) = tgt := by simp [q]
    simp only [e9] at k
    exact k
  · have e9 : (bif (decide (0 ≤ x)) then tgt else pc' + 3) = pc' + 3 := by simp [q]
    simp only [e9] at k
    exact k
theorem ps_if_gt (hx : p.tables.exec = Jvm.exec) (hb : c.code = cc) {off : Int} {tgt : Nat} (ht : (pc : Int) + off = (tgt : Int)) (hd : decode cc pc = .ok (.ifCond .gt off, 3)) : pm_G p l e R s m args below meth c D cl z b aC k0 s0 n0 (pg_if (fun x => decide (0 < x)) tgt) pc := by
  intro S S' hpc h
  obtain ⟨pc', ls, st, hh⟩ := S
  have hpc : pc' = pc := hpc
  subst hpc
  rcases st with _ | ⟨v, st⟩
  · exact nomatch (show (none : Option pm_S) = some S' from h)
  cases v <;> try exact nomatch (show (none : Option pm_S) = some S' from h)
  rename_i x
  have h := Option.some.inj (show some (bif (decide (0 < x)) then tgt else pc' + 3, ls, st, hh) = some S' from h)
  subst h
  intro _ _ Q k H locs LS cells slots hl hq hS hk hs hn
  have k := k H locs LS cells slots hl hq hS hk hs hn
  refine lv_if_gt hx hb hd ht (fun q => ?_) (fun q => ?_)
  · have e9 : (bif (decide (0 < x)) then tgt else pc' + 3) = tgt := by simp [q]
    simp only [e9] at k
    exact k
  · have e9 : (bif (decide (0 < x)) then tgt else pc' + 3) = pc' + 3 := by simp [q]
    simp only [e9] at k
    exact k
theorem ps_if_le (hx : p.tables.exec = Jvm.exec) (hb : c.code = cc) {off : Int} {tgt : Nat} (ht : (pc : Int) + off = (tgt : Int)) (hd : decode cc pc = .ok (.ifCond .le off, 3)) : pm_G p l e R s m args below meth c D cl z b aC k0 s0 n0 (pg_if (fun x => decide (x ≤ 0)) tgt) pc := by
  intro S S' hpc h
  obtain ⟨pc', ls, st, hh⟩ := S
  have hpc : pc' = pc := hpc
  subst hpc
  rcases st with _ | ⟨v, st⟩
  · exact nomatch (show (none : Option pm_S) = some S' from h)
  cases v <;> try exact nomatch (show (none : Option pm_S) = some S' from h)
  rename_i x
  have h := Option.some.inj (show some (bif (decide (x ≤ 0)) then tgt else pc' + 3, ls, st, hh) = some S' from h)
  subst h
  intro _ _ Q k H locs LS cells slots hl hq hS hk hs hn
  have k := k H locs LS cells slots hl hq hS hk hs hn
  refine lv_if_le hx hb hd ht (fun q => ?_) (fun q => ?_)
  · have e9 : (bif (decide (x ≤ 0)) then tgt else pc' + 3) = tgt := by simp [q]
    simp only [e9] at k
    exact k
  · have e9 : (bif (decide (x ≤ 0)) then tgt else pc' + 3) = pc' + 3 := by simp [q]
    simp only [e9] at k
    exact k
theorem ps_icmp_eq (hx : p.tables.exec = Jvm.exec) (hb : c.code = cc) {off : Int} {tgt : Nat} (ht : (pc : Int) + off = (tgt : Int)) (hd : decode cc pc = .ok (.if_icmp .eq off, 3)) : pm_G p l e R s m args below meth c D cl z b aC k0 s0 n0 (pg_icmp (fun x y => decide (x = y)) tgt) pc := by
  intro S S' hpc h
  obtain ⟨pc', ls, st, hh⟩ := S
  have hpc : pc' = pc := hpc
  subst hpc
  rcases st with _ | ⟨v, st⟩
  · exact nomatch (show (none : Option pm_S) = some S' from h)
  cases v <;> try exact nomatch (show (none : Option pm_S) = some S' from h)
  rename_i y
  rcases st with _ | ⟨v, st⟩
  · exact nomatch (show (none : Option pm_S) = some S' from h)
  cases v <;> try exact nomatch (show (none : Option pm_S) = some S' from h)
  rename_i x
  have h := Option.some.inj (show some (bif (decide (x = y)) then tgt else pc' + 3, ls, st, hh) = some S' from h)
  subst h
  intro _ _ Q k H locs LS cells slots hl hq hS hk hs hn
  have k := k H locs LS cells slots hl hq hS hk hs hn
  refine lv_icmp_eq hx hb hd ht (fun q => ?_) (fun q => ?_)
  · have e9 : (bif (decide (x = y)) then tgt else pc' + 3) = tgt := by simp [q]
    simp only [e9] at k
    exact k
  · have e9 : (bif (decide (x = y)) then tgt else pc' + 3) = pc' + 3 := by simp [q]
    simp only [e9] at k
    exact k
theorem ps_icmp_ne (hx : p.tables.exec = Jvm.exec) (hb : c.code = cc) {off : Int} {tgt : Nat} (ht : (pc : Int) + off = (tgt : Int)) (hd : decode cc pc = .ok (.if_icmp .ne off, 3)) : pm_G p l e R s m args below meth c D cl z b aC k0 s0 n0 (pg_icmp (fun x y => !(decide (x = y))) tgt) pc := by
  intro S S' hpc h
  obtain ⟨pc', ls, st, hh⟩ := S
  have hpc : pc' = pc := hpc
  subst hpc
  rcases st with _ | ⟨v, st⟩
  · exact nomatch (show (none : Option pm_S) = some S' from h)
  cases v <;> try exact nomatch (show (none : Option pm_S) = some S' from h)
  rename_i y
  rcases st with _ | ⟨v, st⟩
  · exact nomatch (show (none : Option pm_S) = some S' from h)
  cases v <;> try exact nomatch (show (none : Option pm_S) = some S' from h)
  rename_i x
  have h := Option.some.inj (show some (bif (!(decide (x = y))) then tgt else pc' + 3, ls, st, hh) = some S' from h)
  subst h
  intro _ _ Q k H locs LS cells slots hl hq hS hk hs hn
  have k := k H locs LS cells slots hl hq hS hk hs hn
  refine lv_icmp_ne hx hb hd ht (fun q => ?_) (fun q => ?_)
  · have e9 : (bif (!(decide (x = y))) then tgt else pc' + 3) = tgt := by simp [q]
    simp only [e9] at k
    exact k
  · have e9 : (bif (!(decide (x = y))) then tgt else pc' + 3) = pc' + 3 := by simp [q]
    simp only [e9] at k
    exact k
theorem ps_icmp_lt (hx : p.tables.exec = Jvm.exec) (hb : c.code = cc) {off : Int} {tgt : Nat} (ht : (pc : Int) + off = (tgt : Int)) (hd : decode cc pc = .ok (.if_icmp .lt off, 3)) : pm_G p l e R s m args below meth c D cl z b aC k0 s0 n0 (pg_icmp (fun x y => decide (x < y)) tgt) pc := by
  intro S S' hpc h
  obtain ⟨pc', ls, st, hh⟩ := S
  have hpc : pc' = pc := hpc
  subst hpc
  rcases st with _ | ⟨v, st⟩
  · exact nomatch (show (none : Option pm_S) = some S' from h)
  cases v <;> try exact nomatch (show (none : Option pm_S) = some S' from h)
  rename_i y
  rcases st with _ | ⟨v, st⟩
  · exact nomatch (show (none : Option pm_S) = some S' from h)
  cases v <;> try exact nomatch (show (none : Option pm_S) = some S' from h)
  rename_i x
  have h := Option.some.inj (show some (bif (decide (x < y)) then tgt else pc' + 3, ls, st, hh) = some S' from h)
  subst h
  intro _ _ Q k H locs LS cells slots hl hq hS hk hs hn
  have k := k H locs LS cells slots hl hq hS hk hs hn
  refine lv_icmp_lt hx hb hd ht (fun q => ?_) (fun q => ?_)
  · have e9 : (bif (decide (x < y)) then tgt else pc' + 3) = tgt := by simp [q]
    simp only [e9] at k
    exact k
  · have e9 : (bif (decide (x < y)) then tgt else pc' + 3) = pc' + 3 := by simp [q]
    simp only [e9] at k
    exact k
theorem ps_icmp_ge (hx : p.tables.exec = Jvm.exec) (hb : c.code = cc) {off : Int} {tgt : Nat} (ht : (pc : Int) + off = (tgt : Int)) (hd : decode cc pc = .ok (.if_icmp .ge off, 3)) : pm_G p l e R s m args below meth c D cl z b aC k0 s0 n0 (pg_icmp (fun x y => decide (y ≤ x)) tgt) pc := by
  intro S S' hpc h
  obtain ⟨pc', ls, st, hh⟩ := S
  have hpc : pc' = pc := hpc
  subst hpc
  rcases st with _ | ⟨v, st⟩
  · exact nomatch (show (none : Option pm_S) = some S' from h)
  cases v <;> try exact nomatch (show (none : Option pm_S) = some S' from h)
  rename_i y
  rcases st with _ | ⟨v, st⟩
  · exact nomatch (show (none : Option pm_S) = some S' from h)
  cases v <;> try exact nomatch (show (none : Option pm_S) = some S' from h)
  rename_i x
  have h := Option.some.inj (show some (bif (decide (y ≤ x)) then tgt else pc' + 3, ls, st, hh) = some S' from h)
  subst h
  intro _ _ Q k H locs LS cells slots hl hq hS hk hs hn
  have k := k H locs LS cells slots hl hq hS hk hs hn
  refine lv_icmp_ge hx hb hd ht (fun q => ?_) (fun q => ?_)
  · have e9 : (bif (decide (y ≤ x)) then tgt else pc' + 3) = tgt := by simp [q]
    simp only [e9] at k
    exact k
  · have e9 : (bif (decide (y ≤ x)) then tgt else pc' + 3) = pc' + 3 := by simp [q]
    simp only [e9] at k
    exact k
theorem ps_icmp_gt (hx : p.tables.exec = Jvm.exec) (hb : c.code = cc) {off : Int} {tgt : Nat} (ht : (pc : Int) + off = (tgt : Int)) (hd : decode cc pc = .ok (.if_icmp .gt off, 3)) : pm_G p l e R s m args below meth c D cl z b aC k0 s0 n0 (pg_icmp (fun x y => decide (y < x)) tgt) pc := by
  intro S S' hpc h
  obtain ⟨pc', ls, st, hh⟩ := S
  have hpc : pc' = pc := hpc
  subst hpc
  rcases st with _ | ⟨v, st⟩
  · exact nomatch (show (none : Option pm_S) = some S' from h)
  cases v <;> try exact nomatch (show (none : Option pm_S) = some S' from h)
  rename_i y
  rcases st with _ | ⟨v, st⟩
  · exact nomatch (show (none : Option pm_S) = some S' from h)
  cases v <;> try exact nomatch (show (none : Option pm_S) = some S' from h)
  rename_i x
  have h := Option.some.inj (show some (bif (decide (y < x)) then tgt else pc' + 3, ls, st, hh) = some S' from h)
  subst h
  intro _ _ Q k H locs LS cells slots hl hq hS hk hs hn
  have k := k H locs LS cells slots hl hq hS hk hs hn
  refine lv_icmp_gt hx hb hd ht (fun q => ?_) (fun q => ?_)
  · have e9 : (bif (decide (y < x)) then tgt else pc' + 3) = tgt := by simp [q]
    simp only [e9] at k
    exact k
  · have e9 : (bif (decide (y < x)) then tgt else pc' + 3) = pc' + 3 := by simp [q]
    simp only [e9] at k
    exact k
theorem ps_icmp_le (hx : p.tables.exec = Jvm.exec) (hb : c.code = cc) {off : Int} {tgt : Nat} (ht : (pc : Int) + off = (tgt : Int)) (hd : decode cc pc = .ok (.if_icmp .le off, 3)) : pm_G p l e R s m args below meth c D cl z b aC k0 s0 n0 (pg_icmp (fun x y => decide (x ≤ y)) tgt) pc := by
  intro S S' hpc h
  obtain ⟨pc', ls, st, hh⟩ := S
  have hpc : pc' = pc := hpc
  subst hpc
  rcases st with _ | ⟨v, st⟩
  · exact nomatch (show (none : Option pm_S) = some S' from h)
  cases v <;> try exact nomatch (show (none : Option pm_S) = some S' from h)
  rename_i y
  rcases st with _ | ⟨v, st⟩
  · exact nomatch (show (none : Option pm_S) = some S' from h)
  cases v <;> try exact nomatch (show (none : Option pm_S) = some S' from h)
  rename_i x
  have h := Option.some.inj (show some (bif (decide (x ≤ y)) then tgt else pc' + 3, ls, st, hh) = some S' from h)
  subst h
  intro _ _ Q k H locs LS cells slots hl hq hS hk hs hn
  have k := k H locs LS cells slots hl hq hS hk hs hn
  refine lv_icmp_le hx hb hd ht (fun q => ?_) (fun q => ?_)
  · have e9 : (bif (decide (x ≤ y)) then tgt else pc' + 3) = tgt := by simp [q]
    simp only [e9] at k
    exact k
  · have e9 : (bif (decide (x ≤ y)) then tgt else pc' + 3) = pc' + 3 := by simp [q]
    simp only [e9] at k
    exact k
theorem ps_sw (f : Int32 → Nat) (row : ∀ (x : Int32) (H : Heap) (locs : List Loc) (LS : Array Slot) (st : List Value) (cells slots : Nat) (Q : State → Prop), W p l e R s m args below meth c H locs cells slots Q (F0 m (f x) LS st) → W p l e R s m args below meth c H locs cells slots Q (F0 m pc LS (.int x :: st))) : pm_G p l e R s m args below meth c D cl z b aC k0 s0 n0 (pg_sw f) pc := by
  intro S S' hpc h
  obtain ⟨pc', ls, st, hh⟩ := S
  have hpc : pc' = pc := hpc
  subst hpc
  rcases st with _ | ⟨v, st⟩
  · exact nomatch (show (none : Option pm_S) = some S' from h)
  cases v <;> try exact nomatch (show (none : Option pm_S) = some S' from h)
  rename_i x
  have h := Option.some.inj (show some (f x, ls, st, hh) = some S' from h)
  subst h
  intro _ _ Q k H locs LS cells slots hl hq hS hk hs hn
  exact row x H locs LS _ cells slots Q (k H locs LS cells slots hl hq hS hk hs hn)
theorem ps_iload_n (hx : p.tables.exec = Jvm.exec) (hb : c.code = cc) {kk : Fin 4} {i : Nat} (hi : (kk : Nat) = i) (hd : decode cc pc = .ok (.iload_n kk, 1)) : pm_G p l e R s m args below meth c D cl z b aC k0 s0 n0 (pg_iload i 1) pc := by
  intro S S' hpc h
  obtain ⟨pc', ls, st, hh⟩ := S
  have hpc : pc' = pc := hpc
  subst hpc
  unfold pg_iload at h
  dsimp only at h
  generalize hw : ls[i]? = q at h
  rcases q with _ | _ | v
  · exact nomatch (show (none : Option pm_S) = some S' from h)
  · exact nomatch (show (none : Option pm_S) = some S' from h)
  cases v <;> try exact nomatch (show (none : Option pm_S) = some S' from h)
  rename_i x
  have h := Option.some.inj (show some (pc' + 1, ls, .int x :: st, hh) = some S' from h)
  subst h
  intro _ _ Q k H locs LS cells slots hl hq hS hk hs hn
  exact lv_iload_n hx hb hd hi (hl.at hw) (k H locs LS cells slots hl hq hS hk hs hn)
theorem ps_iload (hx : p.tables.exec = Jvm.exec) (hb : c.code = cc) {i : Nat} (hd : decode cc pc = .ok (.iload i, 2)) : pm_G p l e R s m args below meth c D cl z b aC k0 s0 n0 (pg_iload i 2) pc := by
  intro S S' hpc h
  obtain ⟨pc', ls, st, hh⟩ := S
  have hpc : pc' = pc := hpc
  subst hpc
  unfold pg_iload at h
  dsimp only at h
  generalize hw : ls[i]? = q at h
  rcases q with _ | _ | v
  · exact nomatch (show (none : Option pm_S) = some S' from h)
  · exact nomatch (show (none : Option pm_S) = some S' from h)
  cases v <;> try exact nomatch (show (none : Option pm_S) = some S' from h)
  rename_i x
  have h := Option.some.inj (show some (pc' + 2, ls, .int x :: st, hh) = some S' from h)
  subst h
  intro _ _ Q k H locs LS cells slots hl hq hS hk hs hn
  exact lv_iload hx hb hd (hl.at hw) (k H locs LS cells slots hl hq hS hk hs hn)
theorem ps_lload_n (hx : p.tables.exec = Jvm.exec) (hb : c.code = cc) {kk : Fin 4} {i : Nat} (hi : (kk : Nat) = i) (hd : decode cc pc = .ok (.lload_n kk, 1)) : pm_G p l e R s m args below meth c D cl z b aC k0 s0 n0 (pg_lload i 1) pc := by
  intro S S' hpc h
  obtain ⟨pc', ls, st, hh⟩ := S
  have hpc : pc' = pc := hpc
  subst hpc
  unfold pg_lload at h
  dsimp only at h
  generalize hw : ls[i]? = q at h
  rcases q with _ | _ | v
  · exact nomatch (show (none : Option pm_S) = some S' from h)
  · exact nomatch (show (none : Option pm_S) = some S' from h)
  cases v <;> try exact nomatch (show (none : Option pm_S) = some S' from h)
  rename_i x
  have h := Option.some.inj (show some (pc' + 1, ls, .long x :: st, hh) = some S' from h)
  subst h
  intro _ _ Q k H locs LS cells slots hl hq hS hk hs hn
  exact lv_lload_n hx hb hd hi (hl.at hw) (k H locs LS cells slots hl hq hS hk hs hn)
theorem ps_lload (hx : p.tables.exec = Jvm.exec) (hb : c.code = cc) {i : Nat} (hd : decode cc pc = .ok (.lload i, 2)) : pm_G p l e R s m args below meth c D cl z b aC k0 s0 n0 (pg_lload i 2) pc := by
  intro S S' hpc h
  obtain ⟨pc', ls, st, hh⟩ := S
  have hpc : pc' = pc := hpc
  subst hpc
  unfold pg_lload at h
  dsimp only at h
  generalize hw : ls[i]? = q at h
  rcases q with _ | _ | v
  · exact nomatch (show (none : Option pm_S) = some S' from h)
  · exact nomatch (show (none : Option pm_S) = some S' from h)
  cases v <;> try exact nomatch (show (none : Option pm_S) = some S' from h)
  rename_i x
  have h := Option.some.inj (show some (pc' + 2, ls, .long x :: st, hh) = some S' from h)
  subst h
  intro _ _ Q k H locs LS cells slots hl hq hS hk hs hn
  exact lv_lload hx hb hd (hl.at hw) (k H locs LS cells slots hl hq hS hk hs hn)
theorem ps_aload_n (hx : p.tables.exec = Jvm.exec) (hb : c.code = cc) {kk : Fin 4} {i : Nat} (hi : (kk : Nat) = i) (hd : decode cc pc = .ok (.aload_n kk, 1)) : pm_G p l e R s m args below meth c D cl z b aC k0 s0 n0 (pg_aload i 1) pc := by
  intro S S' hpc h
  obtain ⟨pc', ls, st, hh⟩ := S
  have hpc : pc' = pc := hpc
  subst hpc
  unfold pg_aload at h
  dsimp only at h
  generalize hw : ls[i]? = q at h
  rcases q with _ | _ | v
  · exact nomatch (show (none : Option pm_S) = some S' from h)
  · exact nomatch (show (none : Option pm_S) = some S' from h)
  cases v <;> try exact nomatch (show (none : Option pm_S) = some S' from h)
  rename_i x
  have h := Option.some.inj (show some (pc' + 1, ls, .ref x :: st, hh) = some S' from h)
  subst h
  intro _ _ Q k H locs LS cells slots hl hq hS hk hs hn
  exact lv_aload_n hx hb hd hi (hl.at hw) (k H locs LS cells slots hl hq hS hk hs hn)
theorem ps_aload (hx : p.tables.exec = Jvm.exec) (hb : c.code = cc) {i : Nat} (hd : decode cc pc = .ok (.aload i, 2)) : pm_G p l e R s m args below meth c D cl z b aC k0 s0 n0 (pg_aload i 2) pc := by
  intro S S' hpc h
  obtain ⟨pc', ls, st, hh⟩ := S
  have hpc : pc' = pc := hpc
  subst hpc
  unfold pg_aload at h
  dsimp only at h
  generalize hw : ls[i]? = q at h
  rcases q with _ | _ | v
  · exact nomatch (show (none : Option pm_S) = some S' from h)
  · exact nomatch (show (none : Option pm_S) = some S' from h)
  cases v <;> try exact nomatch (show (none : Option pm_S) = some S' from h)
  rename_i x
  have h := Option.some.inj (show some (pc' + 2, ls, .ref x :: st, hh) = some S' from h)
  subst h
  intro _ _ Q k H locs LS cells slots hl hq hS hk hs hn
  exact lv_aload hx hb hd (hl.at hw) (k H locs LS cells slots hl hq hS hk hs hn)
theorem ps_istore_n (hx : p.tables.exec = Jvm.exec) (hb : c.code = cc) {kk : Fin 4} {i : Nat} (hi : (kk : Nat) = i) (hd : decode cc pc = .ok (.istore_n kk, 1)) : pm_G p l e R s m args below meth c D cl z b aC k0 s0 n0 (pg_istore i 1) pc := by
  intro S S' hpc h
  obtain ⟨pc', ls, st, hh⟩ := S
  have hpc : pc' = pc := hpc
  subst hpc
  rcases st with _ | ⟨v, st⟩
  · exact nomatch (show (none : Option pm_S) = some S' from h)
  cases v <;> try exact nomatch (show (none : Option pm_S) = some S' from h)
  rename_i x
  obtain ⟨hok, h⟩ := pm_bif (show (bif pm_ok ls i then some (pc' + 1, ls.set i (some (.int x)), st, hh) else none) = some S' from h)
  subst h
  intro _ _ Q k H locs LS cells slots hl hq hS hk hs hn
  exact lv_istore_n hx hb hd hi hl.has (pm_ok_lt hok) rfl (fun LS9 hl9 => k H locs LS9 cells slots (pm_LV.set1 hl.1 hok rfl hl9) hq hS hk hs hn)
theorem ps_istore (hx : p.tables.exec = Jvm.exec) (hb : c.code = cc) {i : Nat} (hd : decode cc pc = .ok (.istore i, 2)) : pm_G p l e R s m args below meth c D cl z b aC k0 s0 n0 (pg_istore i 2) pc := by
  intro S S' hpc h
  obtain ⟨pc', ls, st, hh⟩ := S
  have hpc : pc' = pc := hpc
  subst hpc
  rcases st with _ | ⟨v, st⟩
  · exact nomatch (show (none : Option pm_S) = some S' from h)
  cases v <;> try exact nomatch (show (none : Option pm_S) = some S' from h)
  rename_i x
  obtain ⟨hok, h⟩ := pm_bif (show (bif pm_ok ls i then some (pc' + 2, ls.set i (some (.int x)), st, hh) else none) = some S' from h)
  subst h
  intro _ _ Q k H locs LS cells slots hl hq hS hk hs hn
  exact lv_istore hx hb hd hl.has (pm_ok_lt hok) rfl (fun LS9 hl9 => k H locs LS9 cells slots (pm_LV.set1 hl.1 hok rfl hl9) hq hS hk hs hn)
theorem ps_astore_n (hx : p.tables.exec = Jvm.exec) (hb : c.code = cc) {kk : Fin 4} {i : Nat} (hi : (kk : Nat) = i) (hd : decode cc pc = .ok (.astore_n kk, 1)) : pm_G p l e R s m args below meth c D cl z b aC k0 s0 n0 (pg_astore i 1) pc := by
  intro S S' hpc h
  obtain ⟨pc', ls, st, hh⟩ := S
  have hpc : pc' = pc := hpc
  subst hpc
  rcases st with _ | ⟨v, st⟩
  · exact nomatch (show (none : Option pm_S) = some S' from h)
  cases v <;> try exact nomatch (show (none : Option pm_S) = some S' from h)
  rename_i x
  obtain ⟨hok, h⟩ := pm_bif (show (bif pm_ok ls i then some (pc' + 1, ls.set i (some (.ref x)), st, hh) else none) = some S' from h)
  subst h
  intro _ _ Q k H locs LS cells slots hl hq hS hk hs hn
  exact lv_astore_n hx hb hd hi hl.has (pm_ok_lt hok) rfl (fun LS9 hl9 => k H locs LS9 cells slots (pm_LV.set1 hl.1 hok rfl hl9) hq hS hk hs hn)
theorem ps_astore (hx : p.tables.exec = Jvm.exec) (hb : c.code = cc) {i : Nat} (hd : decode cc pc = .ok (.astore i, 2)) : pm_G p l e R s m args below meth c D cl z b aC k0 s0 n0 (pg_astore i 2) pc := by
  intro S S' hpc h
  obtain ⟨pc', ls, st, hh⟩ := S
  have hpc : pc' = pc := hpc
  subst hpc
  rcases st with _ | ⟨v, st⟩
  · exact nomatch (show (none : Option pm_S) = some S' from h)
  cases v <;> try exact nomatch (show (none : Option pm_S) = some S' from h)
  rename_i x
  obtain ⟨hok, h⟩ := pm_bif (show (bif pm_ok ls i then some (pc' + 2, ls.set i (some (.ref x)), st, hh) else none) = some S' from h)
  subst h
  intro _ _ Q k H locs LS cells slots hl hq hS hk hs hn
  exact lv_astore hx hb hd hl.has (pm_ok_lt hok) rfl (fun LS9 hl9 => k H locs LS9 cells slots (pm_LV.set1 hl.1 hok rfl hl9) hq hS hk hs hn)
theorem ps_lstore_n (hx : p.tables.exec = Jvm.exec) (hb : c.code = cc) {kk : Fin 4} {i : Nat} (hi : (kk : Nat) = i) (hd : decode cc pc = .ok (.lstore_n kk, 1)) : pm_G p l e R s m args below meth c D cl z b aC k0 s0 n0 (pg_lstore i 1) pc := by
  intro S S' hpc h
  obtain ⟨pc', ls, st, hh⟩ := S
  have hpc : pc' = pc := hpc
  subst hpc
  rcases st with _ | ⟨v, st⟩
  · exact nomatch (show (none : Option pm_S) = some S' from h)
  cases v <;> try exact nomatch (show (none : Option pm_S) = some S' from h)
  rename_i x
  obtain ⟨hok, h⟩ := pm_bif (show (bif pm_ok ls i && Nat.blt (i + 1) ls.length then some (pc' + 1, (ls.set (i + 1) none).set i (some (.long x)), st, hh) else none) = some S' from h)
  rw [Bool.and_eq_true, Nat.blt_eq] at hok
  obtain ⟨hok, hok2⟩ := hok
  subst h
  intro _ _ Q k H locs LS cells slots hl hq hS hk hs hn
  exact lv_lstore_n hx hb hd hi hl.has hok2 rfl (fun LS9 hl9 => k H locs LS9 cells slots (pm_LV.set2 hl.1 hok hok2 rfl hl9) hq hS hk hs hn)
theorem ps_lstore (hx : p.tables.exec = Jvm.exec) (hb : c.code = cc) {i : Nat} (hd : decode cc pc = .ok (.lstore i, 2)) : pm_G p l e R s m args below meth c D cl z b aC k0 s0 n0 (pg_lstore i 2) pc := by
  intro S S' hpc h
  obtain ⟨pc', ls, st, hh⟩ := S
  have hpc : pc' = pc := hpc
  subst hpc
  rcases st with _ | ⟨v, st⟩
  · exact nomatch (show (none : Option pm_S) = some S' from h)
  cases v <;> try exact nomatch (show (none : Option pm_S) = some S' from h)
  rename_i x
  obtain ⟨hok, h⟩ := pm_bif (show (bif pm_ok ls i && Nat.blt (i + 1) ls.length then some (pc' + 2, (ls.set (i + 1) none).set i (some (.long x)), st, hh) else none) = some S' from h)
  rw [Bool.and_eq_true, Nat.blt_eq] at hok
  obtain ⟨hok, hok2⟩ := hok
  subst h
  intro _ _ Q k H locs LS cells slots hl hq hS hk hs hn
  exact lv_lstore hx hb hd hl.has hok2 rfl (fun LS9 hl9 => k H locs LS9 cells slots (pm_LV.set2 hl.1 hok hok2 rfl hl9) hq hS hk hs hn)
theorem ps_iinc (hx : p.tables.exec = Jvm.exec) (hb : c.code = cc) {i : Nat} {n : Int} {v : Int32} (hv : Int32.ofInt n = v) (hd : decode cc pc = .ok (.iinc i n, 3)) : pm_G p l e R s m args below meth c D cl z b aC k0 s0 n0 (pg_iinc i v 3) pc := by
  intro S S' hpc h
  obtain ⟨pc', ls, st, hh⟩ := S
  have hpc : pc' = pc := hpc
  subst hpc
  unfold pg_iinc at h
  dsimp only at h
  generalize hw : ls[i]? = q at h
  rcases q with _ | _ | y
  · exact nomatch (show (none : Option pm_S) = some S' from h)
  · exact nomatch (show (none : Option pm_S) = some S' from h)
  cases y <;> try exact nomatch (show (none : Option pm_S) = some S' from h)
  rename_i x
  obtain ⟨hok, h⟩ := pm_bif (show (bif pm_ok ls i then some (pc' + 3, ls.set i (some (.int (x + v))), st, hh) else none) = some S' from h)
  subst h
  intro _ _ Q k H locs LS cells slots hl hq hS hk hs hn
  obtain ⟨j, hj⟩ := List.getElem?_of_mem (pm_pairs_mem (z := z) (b := b) hw)
  exact lv_iinc hx hb hd hl.has hj (by rw [hv]) (pm_ok_lt hok) rfl (fun LS9 hl9 => k H locs LS9 cells slots (pm_LV.set1 hl.1 hok rfl hl9) hq hS hk hs hn)
theorem ps_dup (hx : p.tables.exec = Jvm.exec) (hb : c.code = cc) (hd : decode cc pc = .ok (.dup, 1)) : pm_G p l e R s m args below meth c D cl z b aC k0 s0 n0 pg_dup pc := by
  intro S S' hpc h
  obtain ⟨pc', ls, st, hh⟩ := S
  have hpc : pc' = pc := hpc
  subst hpc
  rcases st with _ | ⟨va, st⟩
  · exact nomatch (show (none : Option pm_S) = some S' from h)
  obtain ⟨hok, h⟩ := pm_bif (show (bif pm_n1 va then some (pc' + 1, ls, va :: va :: st, hh) else none) = some S' from h)
  simp only [Bool.and_eq_true, pm_n1, Nat.beq_eq] at hok
  subst h
  intro _ _ Q k H locs LS cells slots hl hq hS hk hs hn
  exact lv_dup hx hb hd (by rw [pm_v_cat]; exact hok) (k H locs LS cells slots hl hq hS hk hs hn)
theorem ps_pop (hx : p.tables.exec = Jvm.exec) (hb : c.code = cc) (hd : decode cc pc = .ok (.pop, 1)) : pm_G p l e R s m args below meth c D cl z b aC k0 s0 n0 pg_pop pc := by
  intro S S' hpc h
  obtain ⟨pc', ls, st, hh⟩ := S
  have hpc : pc' = pc := hpc
  subst hpc
  rcases st with _ | ⟨va, st⟩
  · exact nomatch (show (none : Option pm_S) = some S' from h)
  obtain ⟨hok, h⟩ := pm_bif (show (bif pm_n1 va then some (pc' + 1, ls, st, hh) else none) = some S' from h)
  simp only [Bool.and_eq_true, pm_n1, Nat.beq_eq] at hok
  subst h
  intro _ _ Q k H locs LS cells slots hl hq hS hk hs hn
  exact lv_pop hx hb hd (by rw [pm_v_cat]; exact hok) (k H locs LS cells slots hl hq hS hk hs hn)
theorem ps_dup_x1 (hx : p.tables.exec = Jvm.exec) (hb : c.code = cc) (hd : decode cc pc = .ok (.dup_x1, 1)) : pm_G p l e R s m args below meth c D cl z b aC k0 s0 n0 pg_dup_x1 pc := by
  intro S S' hpc h
  obtain ⟨pc', ls, st, hh⟩ := S
  have hpc : pc' = pc := hpc
  subst hpc
  rcases st with _ | ⟨va, st⟩
  · exact nomatch (show (none : Option pm_S) = some S' from h)
  rcases st with _ | ⟨vb, st⟩
  · exact nomatch (show (none : Option pm_S) = some S' from h)
  obtain ⟨hok, h⟩ := pm_bif (show (bif pm_n1 va && pm_n1 vb then some (pc' + 1, ls, va :: vb :: va :: st, hh) else none) = some S' from h)
  simp only [Bool.and_eq_true, pm_n1, Nat.beq_eq] at hok
  subst h
  intro _ _ Q k H locs LS cells slots hl hq hS hk hs hn
  exact lv_dup_x1 hx hb hd (by rw [pm_v_cat]; exact hok.1) (by rw [pm_v_cat]; exact hok.2) (k H locs LS cells slots hl hq hS hk hs hn)
theorem ps_dup_x2 (hx : p.tables.exec = Jvm.exec) (hb : c.code = cc) (hd : decode cc pc = .ok (.dup_x2, 1)) : pm_G p l e R s m args below meth c D cl z b aC k0 s0 n0 pg_dup_x2 pc := by
  intro S S' hpc h
  obtain ⟨pc', ls, st, hh⟩ := S
  have hpc : pc' = pc := hpc
  subst hpc
  rcases st with _ | ⟨va, st⟩
  · exact nomatch (show (none : Option pm_S) = some S' from h)
  rcases st with _ | ⟨vb, st⟩
  · exact nomatch (show (none : Option pm_S) = some S' from h)
  rcases st with _ | ⟨vd, st⟩
  · exact nomatch (show (none : Option pm_S) = some S' from h)
  obtain ⟨hok, h⟩ := pm_bif (show (bif pm_n1 va && (pm_n1 vb && pm_n1 vd) then some (pc' + 1, ls, va :: vb :: vd :: va :: st, hh) else none) = some S' from h)
  simp only [Bool.and_eq_true, pm_n1, Nat.beq_eq] at hok
  subst h
  intro _ _ Q k H locs LS cells slots hl hq hS hk hs hn
  exact lv_dup_x2 hx hb hd (by rw [pm_v_cat]; exact hok.1) (by rw [pm_v_cat]; exact hok.2.1) (by rw [pm_v_cat]; exact hok.2.2) (k H locs LS cells slots hl hq hS hk hs hn)
theorem ps_dup2 (hx : p.tables.exec = Jvm.exec) (hb : c.code = cc) (hd : decode cc pc = .ok (.dup2, 1)) : pm_G p l e R s m args below meth c D cl z b aC k0 s0 n0 pg_dup2 pc := by
  intro S S' hpc h
  obtain ⟨pc', ls, st, hh⟩ := S
  have hpc : pc' = pc := hpc
  subst hpc
  rcases st with _ | ⟨va, st⟩
  · exact nomatch (show (none : Option pm_S) = some S' from h)
  rcases st with _ | ⟨vb, st⟩
  · exact nomatch (show (none : Option pm_S) = some S' from h)
  obtain ⟨hok, h⟩ := pm_bif (show (bif pm_n1 va && pm_n1 vb then some (pc' + 1, ls, va :: vb :: va :: vb :: st, hh) else none) = some S' from h)
  simp only [Bool.and_eq_true, pm_n1, Nat.beq_eq] at hok
  subst h
  intro _ _ Q k H locs LS cells slots hl hq hS hk hs hn
  exact lv_dup2_11 hx hb hd (by rw [pm_v_cat]; exact hok.1) (by rw [pm_v_cat]; exact hok.2) (k H locs LS cells slots hl hq hS hk hs hn)
end PS
