/-! rules for the law and its helpers: the script, the array of longs, caught exceptions -/
theorem pd_cg {g g' : Nat → Int64} {a : Nat} {r : Nat → Int32} (h : a ≠ 222) : pd_c g a r = pd_c g' a r := by
  unfold pd_c
  rcases Nat.lt_or_ge a 222 with h1 | h1
  · rw [pd_bt h1]
    rfl
  · rw [pd_bf (show 223 ≤ a by omega)]
    rfl
theorem pd_upg {g g' : Nat → Int64} {v : pd_V} : va_up (pd_H g v) 222 (.inl (1, 1, .inr (.inl g'))) = pd_H g' v := by
  funext a
  by_cases h : a = 222
  · subst h
    rw [va_up_self]
    rfl
  · rw [va_up_ne _ _ h]
    exact pd_cg h
section LR
variable {P : Nat → pm_M} {d k pc n kc ks : Nat} {tb : List (Nat × pm_I)} {ls : pm_L} {st : List Value} {g : Nat → Int64} {v : pd_V} {o : pm_O} {h h' : pm_H} {S S' : pm_S}
theorem ev_last (hP : (P k).1 = fun S => pm_look tb S.1 S) {x : Int64} (hI : pm_look tb pc = pi_go pg_last) (r : pm_ev P d k (pc + 1, ls, st, (n, kc, ks, pd_H (vp_updL g 0 x) v)) o) : pm_ev P d k (pc, ls, .long x :: .int 0 :: .ref 222 :: st, (n, kc, ks, pd_H g v)) o := by
  refine ev_one (S' := (pc + 1, ls, st, (n, kc, ks, va_up (pd_H g v) 222 (.inl (1, 1, .inr (.inl (vp_updL g 0 x))))))) hP hI ?_ ?_
  · show (bif pm_in 0 1 then some (pc + 1, ls, st, (n, kc, ks, va_up (pd_H g v) 222 (.inl (1, 1, .inr (.inl (vp_updL g (0 : Int32).toNatClampNeg x)))))) else none) = _
    rw [show pm_in 0 1 = true from by decide, show (0 : Int32).toNatClampNeg = 0 from by decide]
    rfl
  · rw [pd_upg]
    exact r
theorem ev_lald (hP : (P k).1 = fun S => pm_look tb S.1 S) (hI : pm_look tb pc = pi_go pg_lald) (r : pm_ev P d k (pc + 1, ls, .long (g 0) :: st, (n, kc, ks, pd_H g v)) o) : pm_ev P d k (pc, ls, .int 0 :: .ref 222 :: st, (n, kc, ks, pd_H g v)) o := by
  refine ev_one (S' := (pc + 1, ls, .long (g 0) :: st, (n, kc, ks, pd_H g v))) hP hI ?_ r
  show (bif pm_in 0 1 then some (pc + 1, ls, Value.long (g (0 : Int32).toNatClampNeg) :: st, (n, kc, ks, pd_H g v)) else none) = _
  rw [show pm_in 0 1 = true from by decide, show (0 : Int32).toNatClampNeg = 0 from by decide]
  rfl
theorem ev_sald {xs : Nat → Int32} {L : Nat} (hP : (P k).1 = fun S => pm_look tb S.1 S) {i : Int32} (hI : pm_look tb pc = pi_go (pg_sald xs L)) (hi : pm_in i L = true) (r : pm_ev P d k (pc + 1, ls, .int (xs i.toNatClampNeg) :: st, h) o) : pm_ev P d k (pc, ls, .int i :: .ref 1000000 :: st, h) o := by
  refine ev_one (S' := (pc + 1, ls, .int (xs i.toNatClampNeg) :: st, h)) hP hI ?_ r
  show (bif Nat.beq 1000000 1000000 && pm_in i L then some (pc + 1, ls, Value.int (xs i.toNatClampNeg) :: st, h) else none) = _
  rw [hi]
  rfl
theorem ev_callC (hP : (P k).1 = fun S => pm_look tb S.1 S) {j m x pc1 i : Nat} {L : pm_L} (hI : pm_look tb pc = pi_call j m) (h1 : (Nat.ble m st.length && Nat.ble ((st.drop m).map (fun v => v.category)).sum 8) = true) (hL : (P j).2.1 (st.take m).reverse = some L)
    (r1 : pm_ev P d j (0, L, [], h) (.inr x, h')) (hx : (P k).2.2 pc x = .inl (pc1, i)) (r2 : pm_ev P (d + 1) k (pc1, ls.map (fun _ => none), [], h') o) : pm_ev P (d + 1) k (pc, ls, st, h) o := by
  refine pm_ev.callC (S' := (pc, ls, st.drop m, h)) ?_ hL r1 hx r2
  rw [hP]
  show pm_look tb pc (pc, ls, st, h) = _
  rw [hI]
  show (bif Nat.ble m st.length && Nat.ble ((st.drop m).map (fun v => v.category)).sum 8 then (.inr (.inl (j, (st.take m).reverse, (pc, ls, st.drop m, h))) : pm_R) else .inr (.inr none)) = _
  rw [h1]
  rfl
theorem ev_callvC (hP : (P k).1 = fun S => pm_look tb S.1 S) {j m ci x pc1 i : Nat} {L : pm_L} (hI : pm_look tb pc = pi_callv j m ci) (h1 : (Nat.ble m st.length && Nat.ble ((st.drop m).map (fun v => v.category)).sum 8) = true) (h2 : pm_isa ci h (st.take m).reverse = true) (hL : (P j).2.1 (st.take m).reverse = some L)
    (r1 : pm_ev P d j (0, L, [], h) (.inr x, h')) (hx : (P k).2.2 pc x = .inl (pc1, i)) (r2 : pm_ev P (d + 1) k (pc1, ls.map (fun _ => none), [], h') o) : pm_ev P (d + 1) k (pc, ls, st, h) o := by
  refine pm_ev.callC (S' := (pc, ls, st.drop m, h)) ?_ hL r1 hx r2
  rw [hP]
  show pm_look tb pc (pc, ls, st, h) = _
  rw [hI]
  show (bif (Nat.ble m st.length && Nat.ble ((st.drop m).map (fun v => v.category)).sum 8) && pm_isa ci h (st.take m).reverse then (.inr (.inl (j, (st.take m).reverse, (pc, ls, st.drop m, h))) : pm_R) else .inr (.inr none)) = _
  rw [h1, h2]
  rfl
end LR
