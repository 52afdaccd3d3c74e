/-! rules: from the machine to functions over the memory -/
theorem pd_b0 : ((0 : Int32) == 0 || (0 : Int32) == 1) = true := by decide
theorem pd_b1 : ((1 : Int32) == 0 || (1 : Int32) == 1) = true := by decide
theorem pd_bind {α β : Type} {e : Option α} {F : α → Option β} {q : β} (h : e.bind F = some q) : ∃ x, e = some x ∧ F x = some q := by
  cases e with
  | none => exact nomatch (show (none : Option β) = some q from h)
  | some x => exact ⟨x, rfl, h⟩
theorem pd_cases {α : Type} {c : Bool} {A B x : α} (h : (bif c then A else B) = x) : (c = true ∧ A = x) ∨ (c = false ∧ B = x) := by
  cases c
  · exact Or.inr ⟨rfl, h⟩
  · exact Or.inl ⟨rfl, h⟩
theorem pd_chk {α : Type} {c : Bool} {A : Option α} {q : α} (h : (bif c then A else none) = some q) : c = true ∧ A = some q := by
  cases c
  · exact nomatch (show (none : Option α) = some q from h)
  · exact ⟨rfl, h⟩
theorem pd_elim {α β γ : Type} {F : α → γ} {G : β → γ} {e : α ⊕ β} {y : γ} (h : Sum.elim F G e = y) : (∃ r, e = .inl r ∧ F r = y) ∨ (∃ x, e = .inr x ∧ G x = y) := by
  cases e with
  | inl r => exact Or.inl ⟨r, rfl, h⟩
  | inr x => exact Or.inr ⟨x, rfl, h⟩
theorem pd_elimv {α γ : Type} {A : γ} {G : α → γ} {e : Option α} {y : γ} (h : Option.elim e A G = y) : (e = none ∧ A = y) ∨ (∃ x, e = some x ∧ G x = y) := by
  cases e with
  | none => exact Or.inl ⟨rfl, h⟩
  | some x => exact Or.inr ⟨x, rfl, h⟩
theorem pd_fit {x : Int32} (h : (x == 0 || x == 1) = true) : pm_fit 1 (.int x) = true := h
theorem pd_up {g : Nat → Int64} {v : pd_V} {a : Nat} {r : Nat → Int32} : va_up (pd_H g v) a (pd_c g a r) = pd_H g (va_up v a r) := by
  funext j
  by_cases h : j = a
  · subst h
    show va_up (pd_H g v) j (pd_c g j r) j = pd_c g j (va_up v j r j)
    rw [va_up_self, va_up_self]
  · show va_up (pd_H g v) a (pd_c g a r) j = pd_c g j (va_up v a r j)
    rw [va_up_ne _ _ h, va_up_ne _ _ h]
    rfl
def pd_oi (o : Int32 ⊕ Nat) (kc ks : Nat) (g : Nat → Int64) (v : pd_V) : pm_O := match o with
  | .inl r => (.inl (some (.int r)), (pd_N, kc, ks, pd_H g v))
  | .inr x => (.inr x, (pd_N, kc + 1, ks + 6, pd_H g v))
def pd_or (o : Nat ⊕ Nat) (kc ks : Nat) (g : Nat → Int64) (v : pd_V) : pm_O := match o with
  | .inl r => (.inl (some (.ref r)), (pd_N, kc, ks, pd_H g v))
  | .inr x => (.inr x, (pd_N, kc + 1, ks + 6, pd_H g v))
def pd_ov (o : Option Nat) (kc ks : Nat) (g : Nat → Int64) (v : pd_V) : pm_O := match o with
  | none => (.inl none, (pd_N, kc, ks, pd_H g v))
  | some x => (.inr x, (pd_N, kc + 1, ks + 6, pd_H g v))
section DR
variable {P : Nat → pm_M} {d k pc n kc ks : Nat} {tb : List (Nat × pm_I)} {ls : pm_L} {st : List Value} {g : Nat → Int64} {v : pd_V} {o : pm_O} {h h' : pm_H} {S S' : pm_S}
theorem ev_gos (hP : (P k).1 = fun S => pm_look tb S.1 S) (n : Nat) (h : pm_st (fun S => pm_look tb S.1 S) n S = some S') (r : pm_ev P d k S' o) : pm_ev P d k S o := pm_ev.gos n (by rw [hP]; exact h) r
theorem ev_fin (hP : (P k).1 = fun S => pm_look tb S.1 S) (h : pm_look tb S.1 S = .inr (.inr (some o))) : pm_ev P d k S o := pm_ev.fin (by rw [hP]; exact h)
theorem ev_one {g9 : pm_S → Option pm_S} (hP : (P k).1 = fun S => pm_look tb S.1 S) (hI : pm_look tb S.1 = pi_go g9) (hg : g9 S = some S') (r : pm_ev P d k S' o) : pm_ev P d k S o := by
  refine pm_ev.go ?_ r
  rw [hP]
  show pm_look tb S.1 S = .inl S'
  rw [hI]
  show (match g9 S with | some S' => (.inl S' : pm_R) | none => .inr (.inr none)) = .inl S'
  rw [hg]
theorem ev_zret (hP : (P k).1 = fun S => pm_look tb S.1 S) {x : Int32} (hI : pm_look tb pc = pi_zret) (hx : (x == 0 || x == 1) = true) : pm_ev P d k (pc, ls, [.int x], h) (.inl (some (.int x)), h) := by
  refine pm_ev.fin ?_
  rw [hP]
  show pm_look tb pc (pc, ls, [.int x], h) = _
  rw [hI]
  show (bif x == 0 || x == 1 then (.inr (.inr (some (.inl (some (.int x)), h))) : pm_R) else .inr (.inr none)) = _
  rw [hx]
  rfl
theorem ev_get (hP : (P k).1 = fun S => pm_look tb S.1 S) {ci j a : Nat} {F : (Nat → Int32) → List Value} {val : Value} (hI : pm_look tb pc = pi_go (pg_get ci j)) (hc : ∀ r, pd_c g a r = .inr (ci, F r)) (hk : (F (v a))[j]? = some val)
    (r : pm_ev P d k (pc + 3, ls, val :: st, (n, kc, ks, pd_H g v)) o) : pm_ev P d k (pc, ls, .ref a :: st, (n, kc, ks, pd_H g v)) o := by
  refine ev_one hP hI ?_ r
  have e : pd_H g v a = .inr (ci, F (v a)) := hc (v a)
  show (match pd_H g v a with
    | .inr (c, fs) => bif Nat.beq c ci then (match fs[j]? with
      | some w => some (pc + 3, ls, w :: st, (n, kc, ks, pd_H g v))
      | none => none) else none
    | _ => none) = _
  rw [e]
  show (bif Nat.beq ci ci then (match (F (v a))[j]? with
      | some w => some (pc + 3, ls, w :: st, (n, kc, ks, pd_H g v))
      | none => none) else none) = _
  rw [Nat.beq_refl, hk]
  rfl
theorem ev_put (hP : (P k).1 = fun S => pm_look tb S.1 S) {ci j ty a : Nat} {F : (Nat → Int32) → List Value} {val : Value} {x : Int32} (hI : pm_look tb pc = pi_go (pg_put ci j ty)) (hc : ∀ r, pd_c g a r = .inr (ci, F r)) (hs : (F (v a)).set j val = F (upd (v a) j x)) (hl : Nat.blt j (F (v a)).length = true) (hf : pm_fit ty val = true)
    (r : pm_ev P d k (pc + 3, ls, st, (n, kc, ks, pd_H g (pd_w v a j x))) o) : pm_ev P d k (pc, ls, val :: .ref a :: st, (n, kc, ks, pd_H g v)) o := by
  refine ev_one (S' := (pc + 3, ls, st, (n, kc, ks, va_up (pd_H g v) a (.inr (ci, (F (v a)).set j val))))) hP hI ?_ ?_
  · have e : pd_H g v a = .inr (ci, F (v a)) := hc (v a)
    show (match pd_H g v a with
      | .inr (c, fs) => bif Nat.beq c ci && (Nat.blt j fs.length && pm_fit ty val) then some (pc + 3, ls, st, (n, kc, ks, va_up (pd_H g v) a (.inr (c, fs.set j val)))) else none
      | _ => none) = _
    rw [e]
    show (bif Nat.beq ci ci && (Nat.blt j (F (v a)).length && pm_fit ty val) then some (pc + 3, ls, st, (n, kc, ks, va_up (pd_H g v) a (.inr (ci, (F (v a)).set j val)))) else none) = _
    rw [Nat.beq_refl, hl, hf]
    rfl
  · rw [hs, ← hc, pd_up]
    exact r
theorem ev_iald (hP : (P k).1 = fun S => pm_look tb S.1 S) {a N : Nat} {i : Int32} (hI : pm_look tb pc = pi_go pg_iald) (hc : ∀ r, pd_c g a r = .inl (0, N, .inl r)) (hi : pm_in i N = true)
    (r : pm_ev P d k (pc + 1, ls, .int (v a i.toNatClampNeg) :: st, (n, kc, ks, pd_H g v)) o) : pm_ev P d k (pc, ls, .int i :: .ref a :: st, (n, kc, ks, pd_H g v)) o := by
  refine ev_one hP hI ?_ r
  have e : pd_H g v a = .inl (0, N, .inl (v a)) := hc (v a)
  show (match pd_H g v a with
    | .inl (0, N, .inl f) => bif pm_in i N then some (pc + 1, ls, Value.int (f i.toNatClampNeg) :: st, (n, kc, ks, pd_H g v)) else none
    | _ => none) = _
  rw [e]
  show (bif pm_in i N then some (pc + 1, ls, Value.int (v a i.toNatClampNeg) :: st, (n, kc, ks, pd_H g v)) else none) = _
  rw [hi]
  rfl
theorem ev_zald (hP : (P k).1 = fun S => pm_look tb S.1 S) {a N : Nat} {i : Int32} (hI : pm_look tb pc = pi_go pg_zald) (hc : ∀ r, pd_c g a r = .inl (2, N, .inl r)) (hi : pm_in i N = true)
    (r : pm_ev P d k (pc + 1, ls, .int (v a i.toNatClampNeg) :: st, (n, kc, ks, pd_H g v)) o) : pm_ev P d k (pc, ls, .int i :: .ref a :: st, (n, kc, ks, pd_H g v)) o := by
  refine ev_one hP hI ?_ r
  have e : pd_H g v a = .inl (2, N, .inl (v a)) := hc (v a)
  show (match pd_H g v a with
    | .inl (2, N, .inl f) => bif pm_in i N then some (pc + 1, ls, Value.int (f i.toNatClampNeg) :: st, (n, kc, ks, pd_H g v)) else none
    | _ => none) = _
  rw [e]
  show (bif pm_in i N then some (pc + 1, ls, Value.int (v a i.toNatClampNeg) :: st, (n, kc, ks, pd_H g v)) else none) = _
  rw [hi]
  rfl
theorem ev_iast (hP : (P k).1 = fun S => pm_look tb S.1 S) {a N : Nat} {i x : Int32} (hI : pm_look tb pc = pi_go pg_iast) (hc : ∀ r, pd_c g a r = .inl (0, N, .inl r)) (hi : pm_in i N = true)
    (r : pm_ev P d k (pc + 1, ls, st, (n, kc, ks, pd_H g (pd_w v a i.toNatClampNeg x))) o) : pm_ev P d k (pc, ls, .int x :: .int i :: .ref a :: st, (n, kc, ks, pd_H g v)) o := by
  refine ev_one (S' := (pc + 1, ls, st, (n, kc, ks, va_up (pd_H g v) a (.inl (0, N, .inl (upd (v a) i.toNatClampNeg x)))))) hP hI ?_ ?_
  · have e : pd_H g v a = .inl (0, N, .inl (v a)) := hc (v a)
    show (match pd_H g v a with
      | .inl (0, N, .inl f) => bif pm_in i N then some (pc + 1, ls, st, (n, kc, ks, va_up (pd_H g v) a (.inl (0, N, .inl (upd f i.toNatClampNeg x))))) else none
      | _ => none) = _
    rw [e]
    show (bif pm_in i N then some (pc + 1, ls, st, (n, kc, ks, va_up (pd_H g v) a (.inl (0, N, .inl (upd (v a) i.toNatClampNeg x))))) else none) = _
    rw [hi]
    rfl
  · rw [← hc, pd_up]
    exact r
theorem ev_zast (hP : (P k).1 = fun S => pm_look tb S.1 S) {a N : Nat} {i x : Int32} (hI : pm_look tb pc = pi_go pg_zast) (hc : ∀ r, pd_c g a r = .inl (2, N, .inl r)) (hi : pm_in i N = true) (hx : (x == 0 || x == 1) = true)
    (r : pm_ev P d k (pc + 1, ls, st, (n, kc, ks, pd_H g (pd_w v a i.toNatClampNeg x))) o) : pm_ev P d k (pc, ls, .int x :: .int i :: .ref a :: st, (n, kc, ks, pd_H g v)) o := by
  refine ev_one (S' := (pc + 1, ls, st, (n, kc, ks, va_up (pd_H g v) a (.inl (2, N, .inl (upd (v a) i.toNatClampNeg x)))))) hP hI ?_ ?_
  · have e : pd_H g v a = .inl (2, N, .inl (v a)) := hc (v a)
    show (match pd_H g v a with
      | .inl (2, N, .inl f) => bif pm_in i N && (x == 0 || x == 1) then some (pc + 1, ls, st, (n, kc, ks, va_up (pd_H g v) a (.inl (2, N, .inl (upd f i.toNatClampNeg x))))) else none
      | _ => none) = _
    rw [e]
    show (bif pm_in i N && (x == 0 || x == 1) then some (pc + 1, ls, st, (n, kc, ks, va_up (pd_H g v) a (.inl (2, N, .inl (upd (v a) i.toNatClampNeg x))))) else none) = _
    rw [hi, hx]
    rfl
  · rw [← hc, pd_up]
    exact r
theorem ev_aald (hP : (P k).1 = fun S => pm_look tb S.1 S) {a : Nat} {i : Int32} (hI : pm_look tb pc = pi_go (pg_aald 3)) (ha : ker a) (hi : pm_in i 80 = true)
    (r : pm_ev P d k (pc + 1, ls, .ref (a + 4 + i.toNatClampNeg) :: st, (n, kc, ks, pd_H g v)) o) : pm_ev P d k (pc, ls, .int i :: .ref (a + 1) :: st, (n, kc, ks, pd_H g v)) o := by
  refine ev_one hP hI ?_ r
  have e : pd_H g v (a + 1) = .inl (3, 80, .inr (.inr (.inr (.inr (ct_f (a + 1)))))) := c_ke1 ha (v (a + 1))
  have hb : ct_f (a + 1) i.toNatClampNeg = some (a + 4 + i.toNatClampNeg) := ct_rw ha (pm_in_lt hi)
  show (match pd_H g v (a + 1) with
    | .inl (u, N, .inr (.inr (.inr (.inr f)))) => bif Nat.beq u 3 && pm_in i N then some (pc + 1, ls, va_rf (f i.toNatClampNeg) :: st, (n, kc, ks, pd_H g v)) else none
    | _ => none) = _
  rw [e]
  show (bif Nat.beq 3 3 && pm_in i 80 then some (pc + 1, ls, va_rf (ct_f (a + 1) i.toNatClampNeg) :: st, (n, kc, ks, pd_H g v)) else none) = _
  rw [hi, hb]
  rfl
theorem ev_alen (hP : (P k).1 = fun S => pm_look tb S.1 S) {a N : Nat} (hI : pm_look tb pc = pi_go pg_alen) (hc : ∀ r, pd_c g a r = .inl (0, N, .inl r))
    (r : pm_ev P d k (pc + 1, ls, .int (Int32.ofNat N) :: st, (n, kc, ks, pd_H g v)) o) : pm_ev P d k (pc, ls, .ref a :: st, (n, kc, ks, pd_H g v)) o := by
  refine ev_one hP hI ?_ r
  have e : pd_H g v a = .inl (0, N, .inl (v a)) := hc (v a)
  show (match pd_H g v a with
    | .inl (0, N, .inl _) => some (pc + 1, ls, Value.int (Int32.ofNat N) :: st, (n, kc, ks, pd_H g v))
    | _ => none) = _
  rw [e]
  rfl
theorem ev_irem (hP : (P k).1 = fun S => pm_look tb S.1 S) {x y : Int32} (hI : pm_look tb pc = pi_go pg_irem) (hy : (!(decide (y = 0))) = true)
    (r : pm_ev P d k (pc + 1, ls, .int (x - x / y * y) :: st, h) o) : pm_ev P d k (pc, ls, .int y :: .int x :: st, h) o := by
  refine ev_one hP hI ?_ r
  show (bif !(decide (y = 0)) then some (pc + 1, ls, Value.int (x - x / y * y) :: st, h) else none) = _
  rw [hy]
  rfl
theorem ev_copy (hP : (P k).1 = fun S => pm_look tb S.1 S) {a b na nb : Nat} {m dp sp : Int32} (hI : pm_look tb pc = pi_go pg_copy) (hb : ∀ r, pd_c g b r = .inl (0, nb, .inl r)) (ha : ∀ r, pd_c g a r = .inl (0, na, .inl r))
    (hc : ((!(decide (sp < 0)) && (!(decide (dp < 0)) && !(decide (m < 0)))) && (Nat.ble (sp.toNatClampNeg + m.toNatClampNeg) nb && Nat.ble (dp.toNatClampNeg + m.toNatClampNeg) na)) = true) (hs : Nat.ble (st.map (fun v => v.category)).sum 8 = true)
    (r : pm_ev P d k (pc + 3, ls, st, (n, kc, ks, pd_H g (va_up v a (va_cpy (v b) (v a) sp.toNatClampNeg dp.toNatClampNeg m.toNatClampNeg)))) o) : pm_ev P d k (pc, ls, .int m :: .int dp :: .ref a :: .int sp :: .ref b :: st, (n, kc, ks, pd_H g v)) o := by
  simp only [Bool.and_eq_true] at hc
  obtain ⟨⟨c1, c2, c3⟩, c4, c5⟩ := hc
  refine ev_one (S' := (pc + 3, ls, st, (n, kc, ks, va_up (pd_H g v) a (.inl (0, na, .inl (va_cpy (v b) (v a) sp.toNatClampNeg dp.toNatClampNeg m.toNatClampNeg)))))) hP hI ?_ ?_
  · have e1 : pd_H g v b = .inl (0, nb, .inl (v b)) := hb (v b)
    have e2 : pd_H g v a = .inl (0, na, .inl (v a)) := ha (v a)
    unfold pg_copy
    (try dsimp only)
    rw [e1, e2]
    show (bif (!(decide (sp < 0)) && (!(decide (dp < 0)) && !(decide (m < 0)))) && (Nat.ble (sp.toNatClampNeg + m.toNatClampNeg) nb && (Nat.ble (dp.toNatClampNeg + m.toNatClampNeg) na && Nat.ble (st.map (fun v => v.category)).sum 8)) then some (pc + 3, ls, st, (n, kc, ks, va_up (pd_H g v) a (.inl (0, na, .inl (va_cpy (v b) (v a) sp.toNatClampNeg dp.toNatClampNeg m.toNatClampNeg))))) else none) = _
    rw [c1, c2, c3, c4, c5, hs]
    rfl
  · rw [← ha, pd_up]
    exact r
theorem pd_isa {ci a : Nat} {F : (Nat → Int32) → List Value} {As : List Value} (hc : ∀ r, pd_c g a r = .inr (ci, F r)) : pm_isa ci (n, kc, ks, pd_H g v) (.ref a :: As) = true := by
  have e : pd_H g v a = .inr (ci, F (v a)) := hc (v a)
  show (match pd_H g v a with
    | .inr (c, _) => Nat.beq c ci
    | _ => false) = true
  rw [e]
  exact Nat.beq_refl ci
theorem ev_call (hP : (P k).1 = fun S => pm_look tb S.1 S) {j m : Nat} {L : pm_L} {val : Option Value} (hI : pm_look tb pc = pi_call j m) (h1 : (Nat.ble m st.length && Nat.ble ((st.drop m).map (fun v => v.category)).sum 8) = true) (hL : (P j).2.1 (st.take m).reverse = some L)
    (r1 : pm_ev P d j (0, L, [], h) (.inl val, h')) (r2 : pm_ev P (d + 1) k (pc + 3, ls, val.toList ++ st.drop m, h') o) : pm_ev P (d + 1) k (pc, ls, st, h) o := by
  refine pm_ev.call (S' := (pc, ls, st.drop m, h)) ?_ hL r1 r2
  rw [hP]
  show pm_look tb pc (pc, ls, st, h) = _
  rw [hI]
  show (bif Nat.ble m st.length && Nat.ble ((st.drop m).map (fun v => v.category)).sum 8 then (.inr (.inl (j, (st.take m).reverse, (pc, ls, st.drop m, h))) : pm_R) else .inr (.inr none)) = _
  rw [h1]
  rfl
theorem ev_callv (hP : (P k).1 = fun S => pm_look tb S.1 S) {j m ci : Nat} {L : pm_L} {val : Option Value} (hI : pm_look tb pc = pi_callv j m ci) (h1 : (Nat.ble m st.length && Nat.ble ((st.drop m).map (fun v => v.category)).sum 8) = true) (h2 : pm_isa ci h (st.take m).reverse = true) (hL : (P j).2.1 (st.take m).reverse = some L)
    (r1 : pm_ev P d j (0, L, [], h) (.inl val, h')) (r2 : pm_ev P (d + 1) k (pc + 3, ls, val.toList ++ st.drop m, h') o) : pm_ev P (d + 1) k (pc, ls, st, h) o := by
  refine pm_ev.call (S' := (pc, ls, st.drop m, h)) ?_ hL r1 r2
  rw [hP]
  show pm_look tb pc (pc, ls, st, h) = _
  rw [hI]
  show (bif (Nat.ble m st.length && Nat.ble ((st.drop m).map (fun v => v.category)).sum 8) && pm_isa ci h (st.take m).reverse then (.inr (.inl (j, (st.take m).reverse, (pc, ls, st.drop m, h))) : pm_R) else .inr (.inr none)) = _
  rw [h1, h2]
  rfl
theorem ev_callX (hP : (P k).1 = fun S => pm_look tb S.1 S) {j m x : Nat} {L : pm_L} (hI : pm_look tb pc = pi_call j m) (h1 : (Nat.ble m st.length && Nat.ble ((st.drop m).map (fun v => v.category)).sum 8) = true) (hL : (P j).2.1 (st.take m).reverse = some L)
    (r1 : pm_ev P d j (0, L, [], h) (.inr x, h')) (hx : (P k).2.2 pc x = .inr true) : pm_ev P (d + 1) k (pc, ls, st, h) (.inr x, h') := by
  refine pm_ev.callX (S' := (pc, ls, st.drop m, h)) ?_ hL r1 hx
  rw [hP]
  show pm_look tb pc (pc, ls, st, h) = _
  rw [hI]
  show (bif Nat.ble m st.length && Nat.ble ((st.drop m).map (fun v => v.category)).sum 8 then (.inr (.inl (j, (st.take m).reverse, (pc, ls, st.drop m, h))) : pm_R) else .inr (.inr none)) = _
  rw [h1]
  rfl
theorem ev_callvX (hP : (P k).1 = fun S => pm_look tb S.1 S) {j m ci x : Nat} {L : pm_L} (hI : pm_look tb pc = pi_callv j m ci) (h1 : (Nat.ble m st.length && Nat.ble ((st.drop m).map (fun v => v.category)).sum 8) = true) (h2 : pm_isa ci h (st.take m).reverse = true) (hL : (P j).2.1 (st.take m).reverse = some L)
    (r1 : pm_ev P d j (0, L, [], h) (.inr x, h')) (hx : (P k).2.2 pc x = .inr true) : pm_ev P (d + 1) k (pc, ls, st, h) (.inr x, h') := by
  refine pm_ev.callX (S' := (pc, ls, st.drop m, h)) ?_ hL r1 hx
  rw [hP]
  show pm_look tb pc (pc, ls, st, h) = _
  rw [hI]
  show (bif (Nat.ble m st.length && Nat.ble ((st.drop m).map (fun v => v.category)).sum 8) && pm_isa ci h (st.take m).reverse then (.inr (.inl (j, (st.take m).reverse, (pc, ls, st.drop m, h))) : pm_R) else .inr (.inr none)) = _
  rw [h1, h2]
  rfl
end DR
