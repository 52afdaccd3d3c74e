/-! the constructors, run once and for all by the kernel -/
def ct_P : Nat → pm_M := pj_P (fun _ => 0) 0
def ct_S1 : pm_S := (0, [some (.ref 0)], [], (1, 1, 8, va_up (fun _ => pm_dead) 0 (.inr (0, fs_De))))
def ct_r1 : Option pm_O := pm_run ct_P 4000 39 1 ct_S1
def ct_o (r : Option pm_O) : pm_H := match r with
  | some o => o.2
  | none => (0, 0, 0, fun _ => pm_dead)
def ct_ok (r : Option pm_O) (n k : Nat) : Bool := match r with
  | some (.inl none, h) => Nat.beq h.1 n && (Nat.beq h.2.1 n && Nat.beq h.2.2.1 k)
  | _ => false
theorem ct_eq {r : Option pm_O} {n k : Nat} (h : ct_ok r n k = true) : r = some (.inl none, (n, n, k, (ct_o r).2.2.2)) := by
  rcases r with _ | ⟨o, hh⟩
  · exact nomatch (show false = true from h)
  rcases o with o | x
  rotate_left
  · exact nomatch (show false = true from h)
  rcases o with _ | v
  rotate_left
  · exact nomatch (show false = true from h)
  obtain ⟨a, b, c, μ⟩ := hh
  have h : (Nat.beq a n && (Nat.beq b n && Nat.beq c k)) = true := h
  simp only [Bool.and_eq_true] at h
  have h1 := Nat.eq_of_beq_eq_true h.1
  have h2 := Nat.eq_of_beq_eq_true h.2.1
  have h3 := Nat.eq_of_beq_eq_true h.2.2
  subst h1 h2 h3
  rfl
set_option maxRecDepth 100000 in
theorem ct_1 : ct_ok ct_r1 198 3506 = true := by decide +kernel
def ct_m1 : Nat → pm_E := (ct_o ct_r1).2.2.2
def ct_S2 : pm_S := (0, [some (.ref 198)], [], (199, 199, 3549, va_up ct_m1 198 (.inr (7, fs_Mo))))
def ct_r2 : Option pm_O := pm_run ct_P 4000 39 98 ct_S2
def ct_m2 : Nat → pm_E := (ct_o ct_r2).2.2.2
set_option maxRecDepth 100000 in
theorem ct_2 : ct_ok ct_r2 222 4638 = true := by decide +kernel
/-- the heap behind the constructors -/
def ct_h : Nat → pm_E := va_up ct_m2 222 (.inl (1, 1, .inr (.inl (fun _ => 0))))
/-- the ints of a cell -/
def ct_row (e : pm_E) : Nat → Int32 := match e with
  | .inl (_, _, .inl f) => f
  | .inr (_, fs) => fun k => match fs[k]? with
    | some (.int x) => x
    | some (.ref a) => bif Nat.beq a 3 then 0 else 1
    | _ => 0
  | _ => fun _ => 0
def ct_f (a : Nat) : Nat → Option Nat := match ct_h a with
  | .inl (_, _, .inr (.inr (.inr (.inr f)))) => f
  | _ => fun _ => none
/-- a run that never calls method 0 is a run of every program that differs at 0 alone -/
theorem pm_ext {P P0 : Nat → pm_M} (h0 : ∀ k, k ≠ 0 → P k = P0 k) (hn : ∀ as, (P0 0).2.1 as = none) : ∀ (f d k : Nat) (S : pm_S) (o : pm_O), k ≠ 0 → pm_run P0 f d k S = some o → pm_run P f d k S = some o := by
  intro f
  induction f with
  | zero => intro d k S o _ h; exact nomatch (show (none : Option pm_O) = some o from h)
  | succ f ih =>
    intro d k S o hk h
    unfold pm_run at h ⊢
    rw [h0 k hk]
    rcases hI : (P0 k).1 S with S' | ⟨j, as, S'⟩ | o'
    · rw [hI] at h
      exact ih d k S' o hk h
    · rw [hI] at h
      (try dsimp only at h); (try dsimp only)
      rcases d with _ | d
      · exact nomatch (show (none : Option pm_O) = some o from h)
      by_cases hj : j = 0
      · subst hj
        rw [hn as] at h
        exact nomatch (show (none : Option pm_O) = some o from h)
      rw [h0 j hj]
      generalize hL : (P0 j).2.1 as = qL at h
      rcases qL with _ | L
      · exact nomatch (show (none : Option pm_O) = some o from h)
      (try dsimp only at h); (try dsimp only)
      generalize hr : pm_run P0 f d j (0, L, [], S'.2.2.2) = r at h
      rcases r with _ | ⟨oc, h'⟩
      · exact nomatch (show (none : Option pm_O) = some o from h)
      rw [ih d j _ _ hj hr]
      (try dsimp only at h); (try dsimp only)
      rcases oc with v | x
      · exact ih (d + 1) k _ o hk h
      · (try dsimp only at h); (try dsimp only)
        generalize (P0 k).2.2 S'.1 x = ca at h ⊢
        rcases ca with ⟨pc', i⟩ | bb
        · exact ih (d + 1) k _ o hk h
        · cases bb <;> exact h
    · rw [hI] at h
      exact h
theorem ct_ext {xs : Nat → Int32} {L f d k : Nat} {S : pm_S} {o : pm_O} (hk : k ≠ 0) (h : pm_run ct_P f d k S = some o) : pm_ev (pj_P xs L) d k S o := by
  refine ⟨f, pm_ext (P0 := ct_P) (fun k hk => ?_) (fun _ => rfl) f d k S o hk h⟩
  have hb : Nat.beq k 0 = false := by
    cases q : Nat.beq k 0
    · rfl
    · exact absurd (Nat.eq_of_beq_eq_true q) hk
  unfold ct_P pj_P
  rw [hb]
  rfl
theorem ct_st {xs : Nat → Int32} {L k n c : Nat} {S : pm_S} {r : Option pm_O} {μ : Nat → pm_E} (hk : k ≠ 0) (hr : r = pm_run ct_P 4000 39 k S) (hm : μ = (ct_o r).2.2.2) (h : ct_ok r n c = true) : pm_ev (pj_P xs L) 39 k S (.inl none, (n, n, c, μ)) := by
  have e := ct_eq h
  rw [hm]
  exact ct_ext (f := 4000) hk (hr.symm.trans e)
theorem ct_e1 {xs : Nat → Int32} {L : Nat} : pm_ev (pj_P xs L) 39 1 ct_S1 (.inl none, (198, 198, 3506, ct_m1)) := ct_st (r := ct_r1) (by decide) rfl rfl ct_1
theorem ct_e2 {xs : Nat → Int32} {L : Nat} : pm_ev (pj_P xs L) 39 98 ct_S2 (.inl none, (222, 222, 4638, ct_m2)) := ct_st (r := ct_r2) (by decide) rfl rfl ct_2
