/-! switches; exceptions that are caught; methods with a table of exceptions -/
def pg_swf (l : List (Int32 × Nat)) (d : Nat) (x : Int32) : Nat := match l with
  | [] => d
  | q :: t => bif decide (x = q.1) then q.2 else pg_swf t d x
def pj_tr (pc : Nat) (lo : Int) (os : List Int) (l : List (Int32 × Nat)) : Bool := match os, l with
  | [], [] => true
  | o :: os, q :: qs => decide (q.1.toInt = lo) && (decide ((pc : Int) + o = (q.2 : Int)) && pj_tr pc (lo + 1) os qs)
  | _, _ => false
def pj_lr (pc : Nat) (ps : List (Int × Int)) (l : List (Int32 × Nat)) : Bool := match ps, l with
  | [], [] => true
  | o :: os, q :: qs => decide (q.1.toInt = o.1) && (decide ((pc : Int) + o.2 = (q.2 : Int)) && pj_lr pc os qs)
  | _, _ => false
theorem pj_tr_out {pc d : Nat} {x : Int32} : ∀ (os : List Int) (lo : Int) (tl : List (Int32 × Nat)), pj_tr pc lo os tl = true → (x.toInt < lo ∨ lo + (os.length : Int) ≤ x.toInt) → pg_swf tl d x = d := by
  intro os
  induction os with
  | nil =>
    intro lo tl h _
    cases tl with
    | nil => rfl
    | cons q t => exact nomatch (show false = true from h)
  | cons o os ih =>
    intro lo tl h hx
    cases tl with
    | nil => exact nomatch (show false = true from h)
    | cons q t =>
      have h : (decide (q.1.toInt = lo) && (decide ((pc : Int) + o = (q.2 : Int)) && pj_tr pc (lo + 1) os t)) = true := h
      simp only [Bool.and_eq_true, decide_eq_true_eq] at h
      obtain ⟨h1, h2, h3⟩ := h
      rw [List.length_cons] at hx
      have hne : decide (x = q.1) = false := by
        rw [decide_eq_false_iff_not]
        intro e
        rw [e] at hx
        omega
      show (bif decide (x = q.1) then q.2 else pg_swf t d x) = d
      rw [hne]
      exact ih (lo + 1) t h3 (by omega)
theorem pj_tr_in {pc d : Nat} {x : Int32} : ∀ (os : List Int) (lo : Int) (tl : List (Int32 × Nat)), pj_tr pc lo os tl = true → ∀ (k : Nat) (o : Int), os[k]? = some o → x.toInt = lo + (k : Int) → (pc : Int) + o = (pg_swf tl d x : Nat) := by
  intro os
  induction os with
  | nil => intro lo tl h k o hk; exact nomatch (show (none : Option Int) = some o from hk)
  | cons o1 os ih =>
    intro lo tl h k o hk hx
    cases tl with
    | nil => exact nomatch (show false = true from h)
    | cons q t =>
      have h : (decide (q.1.toInt = lo) && (decide ((pc : Int) + o1 = (q.2 : Int)) && pj_tr pc (lo + 1) os t)) = true := h
      simp only [Bool.and_eq_true, decide_eq_true_eq] at h
      obtain ⟨h1, h2, h3⟩ := h
      show (pc : Int) + o = ((bif decide (x = q.1) then q.2 else pg_swf t d x : Nat) : Int)
      rcases k with _ | k
      · have e : x = q.1 := Int32.toInt_inj.mp (by rw [hx, h1]; omega)
        have e1 : o1 = o := Option.some.inj hk
        rw [decide_eq_true e, ← e1]
        exact h2
      · have e : ¬ x = q.1 := by
          intro e
          rw [e] at hx
          omega
        rw [decide_eq_false e]
        exact ih (lo + 1) t h3 k o hk (by omega)
theorem pj_lk {pc dt : Nat} {d : Int} {x : Int32} (hd : (pc : Int) + d = (dt : Int)) : ∀ (ps : List (Int × Int)) (tl : List (Int32 × Nat)), pj_lr pc ps tl = true → (pc : Int) + Op.lookupswitch.offset ps d x.toInt = (pg_swf tl dt x : Nat) := by
  intro ps
  induction ps with
  | nil =>
    intro tl h
    cases tl with
    | nil => exact hd
    | cons q t => exact nomatch (show false = true from h)
  | cons o os ih =>
    intro tl h
    cases tl with
    | nil => exact nomatch (show false = true from h)
    | cons q t =>
      have h : (decide (q.1.toInt = o.1) && (decide ((pc : Int) + o.2 = (q.2 : Int)) && pj_lr pc os t)) = true := h
      simp only [Bool.and_eq_true, decide_eq_true_eq] at h
      obtain ⟨h1, h2, h3⟩ := h
      obtain ⟨o1, o2⟩ := o
      rw [Op.lookupswitch.offset_cons]
      show _ = ((bif decide (x = q.1) then q.2 else pg_swf t dt x : Nat) : Int)
      by_cases e : x = q.1
      · rw [decide_eq_true e, if_pos (by rw [e]; exact h1.symm)]
        exact h2
      · rw [decide_eq_false e, if_neg (fun g => e (Int32.toInt_inj.mp (by rw [h1]; exact g.symm)))]
        exact ih t h3
/-- which row of a method's table takes exception x at pc: (first pc, end, exception, where it goes on, the local that holds it) -/
def pm_cat (l : List (Nat × Nat × Nat × Nat × Nat)) (pc x : Nat) : (Nat × Nat) ⊕ Bool := match l with
  | [] => .inr false
  | q :: t => bif Nat.ble q.1 pc && (Nat.blt pc q.2.1 && Nat.beq x q.2.2.1) then .inl (q.2.2.2.1, q.2.2.2.2) else pm_cat t pc x
theorem pm_cat_no {l : List (Nat × Nat × Nat × Nat × Nat)} {pc x : Nat} (h : pm_cat l pc x = .inr true) : False := by
  induction l with
  | nil => exact nomatch (show (Sum.inr false : (Nat × Nat) ⊕ Bool) = .inr true from h)
  | cons q t ih =>
    have h : (bif Nat.ble q.1 pc && (Nat.blt pc q.2.1 && Nat.beq x q.2.2.1) then (.inl (q.2.2.2.1, q.2.2.2.2) : (Nat × Nat) ⊕ Bool) else pm_cat t pc x) = .inr true := h
    cases hc : Nat.ble q.1 pc && (Nat.blt pc q.2.1 && Nat.beq x q.2.2.1)
    · rw [hc] at h; exact ih h
    · rw [hc] at h; exact nomatch (show (Sum.inl (q.2.2.2.1, q.2.2.2.2) : (Nat × Nat) ⊕ Bool) = .inr true from h)
theorem pm_cat_cons {a b y p' i' : Nat} {t : List (Nat × Nat × Nat × Nat × Nat)} {pc x pc1 i : Nat} (h : pm_cat ((a, b, y, p', i') :: t) pc x = .inl (pc1, i)) : (a ≤ pc ∧ pc < b ∧ x = y ∧ p' = pc1 ∧ i' = i) ∨ pm_cat t pc x = .inl (pc1, i) := by
  have h : (bif Nat.ble a pc && (Nat.blt pc b && Nat.beq x y) then (.inl (p', i') : (Nat × Nat) ⊕ Bool) else pm_cat t pc x) = .inl (pc1, i) := h
  cases hc : Nat.ble a pc && (Nat.blt pc b && Nat.beq x y)
  · rw [hc] at h; exact Or.inr h
  · rw [hc] at h
    simp only [Bool.and_eq_true] at hc
    have h9 := Sum.inl.inj (show (Sum.inl (p', i') : (Nat × Nat) ⊕ Bool) = .inl (pc1, i) from h)
    injection h9 with e1 e2
    exact Or.inl ⟨Nat.le_of_ble_eq_true hc.1, Nat.le_of_ble_eq_true hc.2.1, Nat.eq_of_beq_eq_true hc.2.2, e1, e2⟩
theorem pm_LV.forget {z b nL : Nat} {LS : Array Slot} {pl : pm_L} {lv : List (Nat × Value)} (hn : pl.length = nL) (h : lv_has LS pl.length lv) : pm_LV z b nL LS (pl.map (fun _ => none)) := by
  refine ⟨by rw [List.length_map]; exact hn, by rw [List.length_map]; exact h.1, h.2.1, fun i v hi => ?_⟩
  rw [List.getElem?_map] at hi
  generalize pl[i]? = w at hi
  rcases w with _ | w
  · exact nomatch (show (none : Option (Option Value)) = some (some v) from hi)
  · exact nomatch (show (some none : Option (Option Value)) = some (some v) from hi)
section PR
variable {p : Program} {l : Launch} {e : Env} {R : Room} {s : State} {m : MethodId} {args : Array Value} {below : List Frame} {meth : Method} {c : Code} {cc : ByteArray} {D : va_G} {cl : List vw_C} {tys : List (ClassId × FieldType)} {z b : Nat} {aC : Nat → ClassId} {k0 s0 n0 pc : Nat} {xn : Nat → String} {H : Heap} {locs : List Loc} {LS : Array Slot} {st : List Value} {cells slots : Nat} {Q : State → Prop}
theorem sp_tab (hx : p.tables.exec = Jvm.exec) (hb : c.code = cc) {dflt lo hi : Int} {offs : Array Int} {len dt : Nat} {tl : List (Int32 × Nat)} (hdg : decode cc pc = .ok (.tableswitch dflt lo hi offs, len)) (hd : (pc : Int) + dflt = (dt : Int)) (hhi : lo + (offs.toList.length : Int) = hi + 1) (ht : pj_tr pc lo offs.toList tl = true) (x : Int32)
    (k : W p l e R s m args below meth c H locs cells slots Q (F0 m (pg_swf tl dt x) LS st)) : W p l e R s m args below meth c H locs cells slots Q (F0 m pc LS (.int x :: st)) := by
  by_cases h : x.toInt < lo ∨ hi < x.toInt
  · rw [pj_tr_out offs.toList lo tl ht (by omega)] at k
    exact lv_tableOut hx hb hdg h hd k
  · have h1 : ¬ x.toInt < lo := fun q => h (Or.inl q)
    have h2 : ¬ hi < x.toInt := fun q => h (Or.inr q)
    obtain ⟨o, ho⟩ : ∃ o, offs.toList[(x.toInt - lo).toNat]? = some o := ⟨_, List.getElem?_eq_getElem (by omega)⟩
    exact lv_tableIn hx hb hdg h1 h2 (by rw [← Array.getElem?_toList]; exact ho) (pj_tr_in offs.toList lo tl ht _ o ho (by omega)) k
theorem sp_look (hx : p.tables.exec = Jvm.exec) (hb : c.code = cc) {dflt : Int} {ps : Array (Int × Int)} {len dt : Nat} {tl : List (Int32 × Nat)} (hdg : decode cc pc = .ok (.lookupswitch dflt ps, len)) (hd : (pc : Int) + dflt = (dt : Int)) (hp : (ps.toList.zip (ps.toList.drop 1)).all (fun (a, next) => a.1 < next.1) = true) (ht : pj_lr pc ps.toList tl = true) (x : Int32)
    (k : W p l e R s m args below meth c H locs cells slots Q (F0 m (pg_swf tl dt x) LS st)) : W p l e R s m args below meth c H locs cells slots Q (F0 m pc LS (.int x :: st)) :=
  lv_lookup hx hb hdg hp rfl (pj_lk hd ps.toList tl ht) k
/-- the handler's first instruction lays the exception into a local -/
theorem pj_hand (hx : p.tables.exec = Jvm.exec) (hb : c.code = cc) {i hp pc' : Nat} (hd : (∃ kk : Fin 4, (kk : Nat) = i ∧ decode cc hp = .ok (.astore_n kk, 1) ∧ hp + 1 = pc') ∨ (decode cc hp = .ok (.astore i, 2) ∧ hp + 2 = pc')) (hi : i < c.maxLocals) {pl : pm_L} {h : pm_H} (hl : pm_LV z b c.maxLocals LS pl) (hq : pm_Q D cl z b aC h H) (hS : va_S (fun q : Nat => z ≤ q) s.heap H locs) (hk : k0 + cells = h.2.1) (hs : s0 + slots = h.2.2.1) (hn : h.1 + k0 ≤ n0 + h.2.1) {q : Addr}
    (kk : pm_W p l e R s m args below meth c D cl z b aC k0 s0 n0 Q (pc', pl.map (fun _ => none), [], h)) : W p l e R s m args below meth c H locs cells slots Q (F0 m hp LS [.ref q]) := by
  rcases hd with ⟨k4, e4, hd, rfl⟩ | ⟨hd, rfl⟩
  · exact lv_astore_n hx hb hd e4 hl.has (by rw [hl.1]; exact hi) rfl (fun LS9 hl9 => kk H locs LS9 cells slots (pm_LV.forget hl.1 hl9) hq hS hk hs hn)
  · exact lv_astore hx hb hd hl.has (by rw [hl.1]; exact hi) rfl (fun LS9 hl9 => kk H locs LS9 cells slots (pm_LV.forget hl.1 hl9) hq hS hk hs hn)
end PR
theorem pj_row {x : ExceptionTableEntry} {a b c d : Nat} (h : (x.startPc, x.endPc, x.handlerPc, x.catchType) = (a, b, c, d)) : x.startPc = a ∧ x.endPc = b ∧ x.handlerPc = c ∧ x.catchType = d := by
  injection h with h1 h2
  injection h2 with h2 h3
  injection h3 with h3 h4
  exact ⟨h1, h2, h3, h4⟩
theorem pj_cov {x : ExceptionTableEntry} {a b pc : Nat} (h1 : x.startPc = a) (h2 : x.endPc = b) (h3 : a ≤ pc) (h4 : pc < b) : covers x pc = true := by
  simp only [covers, Bool.and_eq_true, decide_eq_true_eq]
  rw [h1, h2]
  exact ⟨h3, h4⟩
set_option maxHeartbeats 4000000 in
/-- .. as pm_okW, for a method that catches -/
theorem pm_okC {l : Launch} {KF : State → Prop} {D : va_G} {cl : List vw_C} {z b : Nat} {aC : Nat → ClassId} {xn : Nat → String} {mi : Nat → MethodName × List Cond} {P : Nat → pm_M} {k : Nat} {y : MethodName} {ws ws' : List Cond} {cc : ByteArray} {maxL : Nat} {ret : Option FieldType} {hh : List (Nat × Nat × Nat × Nat)}
    (hy : plainName y.cls = true) (hw : ws = .codeWith y cc maxL ret hh :: ws') (hmi : mi k = (y, ws)) (hent : (P k).2.1 = pm_ent maxL) (hMO : pm_MO (P k).1)
    (hB : ∀ (p : Program) (e : Env) (R : Room) (s : State) (m : MethodId) (args : Array Value) (below : List Frame) (meth : Method) (c : Code) (k0 s0 n0 : Nat), pm_cx p s m args meth c y cc maxL ret ws → c.exceptionTable.toList.map (fun h => (h.startPc, h.endPc, h.handlerPc, h.catchType)) = hh → KF s → (z ≤ s.heap.size ∧ n0 ≤ k0 ∧ (n0 = k0 → s.heap.size = z + n0)) → 8 ≤ R.frames → 256 ≤ R.locals → pm_B p l e R s m args below meth c D cl z b aC k0 s0 n0 xn mi (P k) (pm_Eo below D cl z b aC xn args s k0 s0)) : pm_Ok l KF D cl z b aC xn mi P k := by
  refine ⟨hMO, fun d as L h o hL hle hrun => ?_⟩
  rw [hent] at hL
  unfold pm_Met
  rw [hmi]
  refine MetFree.of_bodyS (code := cc) (maxLocals := maxL) (ret := ret) hy ?_ ?_
  · intro args s m h hn
    obtain ⟨m9, meth, c, h0, h1, h2, h3, h4, -, h5, h6, -⟩ := Cond.codeWith_spec (atoms_spec (ws := ws) h _ (by rw [hw]; exact List.mem_cons_self))
    cases Option.some.inj (h0.symm.trans hn)
    exact ⟨meth, c, h1, h2, h3, h4, h5, h6⟩
  intro p e s m args below meth c s₁ B hml hv _
  have hh0 : s₁.heap = s.heap := by rw [B.state]; rfl
  have ht : c.exceptionTable.toList.map (fun h => (h.startPc, h.endPc, h.handlerPc, h.catchType)) = hh := by
    obtain ⟨m9, meth9, c9, h0, h1, h2, -, -, h7, -, -, -⟩ := Cond.codeWith_spec (atoms_spec (ws := ws) B.pre _ (by rw [hw]; exact List.mem_cons_self))
    cases Option.some.inj (h0.symm.trans B.named)
    cases Option.some.inj (h1.symm.trans B.method)
    cases Option.some.inj (h2.symm.trans (Stand.of_body B).code)
    exact h7
  obtain ⟨rfl, hq, hKF, hz1, hz2, hz3⟩ := hv
  have hts := atoms_spec (ws := ws) B.pre
  have hown : s.vm.findClass y.cls = some m.cls := findClass_of_methodNamed B.named
  have hBB := hB p e (headSpec ws (pm_rm d (o.2.2.1 - h.2.1) (o.2.2.2.1 - h.2.2.1))).room s m (as.map (pm_v z b)).toArray below meth c h.2.1 h.2.2.1 h.1 ⟨B.exec, B.bytes, hml, B.returns, B.notSynchronized, (name_of_methodNamed B.named B.method).1, hown, hts⟩ ht hKF ⟨hz1, hz2, hz3⟩ (show 8 ≤ d + 8 by omega) (show 256 ≤ 64 * d + 256 by omega)
  have hW := hrun p e _ s m _ below meth c ⟨hKF, ⟨hz1, hz2, hz3⟩, Nat.le_refl _, Nat.le_refl _⟩ hBB (show o.2.2.1 ≤ h.2.1 + (o.2.2.1 - h.2.1) by have := hle.1; omega) (show o.2.2.2.1 ≤ h.2.2.1 + (o.2.2.2.1 - h.2.2.1) by have := hle.2.1; omega)
  have hE := hW s.heap [] _ 0 0 (by rw [hml]; exact pm_ent_LV hL) hq va_S.rf rfl rfl (Nat.le_refl _)
  have hE := hE s₁ hh0 (Stand.of_body B)
  have e0 := lg_entry_eq m (as.map (pm_v z b)) maxL
  obtain ⟨t, a1, o1, b1, b2, b3⟩ := hE
  refine ⟨t, o1, ?_, b1, b2, b3⟩
  rw [e0]
  exact a1
/-- no method -/
def M_no : pm_M := (fun _ => .inr (.inr none), fun _ => none, fun _ _ => .inr true)
theorem pm_ok_none {l : Launch} {KF : State → Prop} {D : va_G} {cl : List vw_C} {z b : Nat} {aC : Nat → ClassId} {xn : Nat → String} {mi : Nat → MethodName × List Cond} {P : Nat → pm_M} {k : Nat} (hMO : pm_MO (P k).1) (h : ∀ as, (P k).2.1 as = none) : pm_Ok l KF D cl z b aC xn mi P k :=
  ⟨hMO, fun d as L h9 o hL => nomatch ((h as).symm.trans hL)⟩
theorem mo_no : pm_MO M_no.1 := by
  intro S
  exact ⟨fun S' q => (nomatch (show (Sum.inr (Sum.inr none) : pm_R) = .inl S' from q)), fun j as S' q => (nomatch (show (Sum.inr (Sum.inr none) : pm_R) = .inr (.inl (j, as, S')) from q)), fun o q => (nomatch (show (Sum.inr (Sum.inr none) : pm_R) = .inr (.inr (some o)) from q))⟩
def pj_fp (l : List (Nat × pm_M)) (k : Nat) : pm_M := match l with
  | [] => M_no
  | q :: t => bif Nat.beq q.1 k then q.2 else pj_fp t k
theorem pj_fp_no : ∀ (l : List (Nat × pm_M)) (k : Nat), (∀ q ∈ l, q.1 ≠ k) → pj_fp l k = M_no := by
  intro l k
  induction l with
  | nil => intro _; rfl
  | cons q t ih =>
    intro h
    show (bif Nat.beq q.1 k then q.2 else pj_fp t k) = M_no
    cases hb : Nat.beq q.1 k
    · exact ih (fun q hq => h q (List.mem_cons_of_mem _ hq))
    · exact absurd (Nat.eq_of_beq_eq_true hb) (h q List.mem_cons_self)
