/-! the law from its first instruction to the head of its loop, and from there to its end -/
section SL
variable {P : Nat → pm_M} {d k pc : Nat} {tb : List (Nat × pm_I)} {ls : pm_L} {st : List Value} {o : pm_O} {h h' : pm_H}
theorem ev_calli (hP : (P k).1 = fun S => pm_look tb S.1 S) {j m : Nat} {L : pm_L} {val : Option Value} (hI : pm_look tb pc = pi_calli j m) (h1 : (Nat.ble m st.length && Nat.ble ((st.drop m).map (fun v => v.category)).sum 8) = true) (h2 : pm_isr (st.take m).reverse = true) (hL : (P j).2.1 (st.take m).reverse = some L)
    (r1 : pm_ev P d j (0, L, [], h) (.inl val, h')) (r2 : pm_ev P (d + 1) k (pc + 3, ls, val.toList ++ st.drop m, h') o) : pm_ev P (d + 1) k (pc, ls, st, h) o := by
  refine pm_ev.call (S' := (pc, ls, st.drop m, h)) ?_ hL r1 r2
  rw [hP]
  show pm_look tb pc (pc, ls, st, h) = _
  rw [hI]
  show (bif (Nat.ble m st.length && Nat.ble ((st.drop m).map (fun v => v.category)).sum 8) && pm_isr (st.take m).reverse then (.inr (.inl (j, (st.take m).reverse, (pc, ls, st.drop m, h))) : pm_R) else .inr (.inr none)) = _
  rw [h1, h2]
  rfl
variable {xs : Nat → Int32} {L : Nat}
set_option maxRecDepth 100000 in
theorem law_start (K : pm_ev (pj_P xs L) 40 0 (23, [some (.ref 1000000), some (.ref 0), some (.ref 198), some (.ref 222), some (.int 0), none, none], [], (223, 223, 4639, pd_H pd_g pd_0)) o) : pm_ev (pj_P xs L) 40 0 (0, [some (.ref 1000000), none, none, none, none, none, none], [], (0, 0, 0, fun _ => pm_dead)) o := by
  refine ev_gos pp_law 2 (S' := (4, [some (.ref 1000000), none, none, none, none, none, none], [.ref 0, .ref 0], (1, 1, 8, va_up (fun _ => pm_dead) 0 (.inr (0, fs_De))))) rfl ?_
  refine ev_calli (d := 39) (h' := (198, 198, 3506, ct_m1)) pp_law rfl rfl rfl rfl ct_e1 ?_
  refine ev_gos pp_law 3 (S' := (12, [some (.ref 1000000), some (.ref 0), none, none, none, none, none], [.ref 198, .ref 198], (199, 199, 3549, va_up ct_m1 198 (.inr (7, fs_Mo))))) rfl ?_
  refine ev_calli (d := 39) (h' := (222, 222, 4638, ct_m2)) pp_law rfl rfl rfl rfl ct_e2 ?_
  refine ev_gos pp_law 6 (S' := (23, [some (.ref 1000000), some (.ref 0), some (.ref 198), some (.ref 222), some (.int 0), none, none], [], (223, 223, 4639, va_up ct_m2 222 (.inl (1, 1, .inr (.inl (fun _ => 0))))))) rfl ?_
  have e : va_up ct_m2 222 (.inl (1, 1, .inr (.inl (fun _ => 0)))) = pd_H pd_g pd_0 := ct_pt
  rw [e]
  exact K
set_option maxRecDepth 100000 in
theorem law_exit {kc ks : Nat} {i : Int32} {v : pd_V} {g : Nat → Int64} {y5 y6 : Option Value} (hi : decide (Int32.ofNat L - (4 : Int32) < i) = true) : pm_ev (pj_P xs L) d 0 (23, [some (.ref 1000000), some (.ref 0), some (.ref 198), some (.ref 222), some (.int i), y5, y6], [], (223, kc, ks, pd_H g v)) (.inl (some (.int 1)), (223, kc, ks, pd_H g v)) := by
  refine ev_gos pp_law 5 (S' := (29, [some (.ref 1000000), some (.ref 0), some (.ref 198), some (.ref 222), some (.int i), y5, y6], [.int (Int32.ofNat L - (4 : Int32)), .int i], (223, kc, ks, pd_H g v))) rfl ?_
  refine ev_gos pp_law 1 (S' := (bif decide (Int32.ofNat L - (4 : Int32) < i) then 895 else 32, [some (.ref 1000000), some (.ref 0), some (.ref 198), some (.ref 222), some (.int i), y5, y6], [], (223, kc, ks, pd_H g v))) rfl ?_
  rw [hi]
  refine ev_gos pp_law 1 (S' := (896, [some (.ref 1000000), some (.ref 0), some (.ref 198), some (.ref 222), some (.int i), y5, y6], [.int 1], (223, kc, ks, pd_H g v))) rfl ?_
  exact ev_fin pp_law rfl
end SL
