/-! what does not vary is worth the same in all lanes -/
def xNV (s : Nat → Int32) (W : Int32) (j : Nat) : Prop := s j ≠ 110 ∧ s j ≠ 76 ∧ (xvar (s j) = true → zbt W (s j - 97).toNatClampNeg = false)
section YNV
variable {s : Nat → Int32} {n m p q r : Nat} {W x y : Int32} {e1 e2 : xEv}
theorem xdf_j : ∀ (c p : Nat), xdf s p c W = false → ∀ j, p ≤ j → j < p + c → xNV s W j := by
  intro c
  induction c with
  | zero => intro p _ j h1 h2; omega
  | succ c ih =>
    intro p h j h1 h2
    have h : ((decide (s p = 110) || decide (s p = 76) || (xvar (s p) && zbt W (s p - 97).toNatClampNeg)) || xdf s (p + 1) c W) = false := h
    obtain ⟨h3, h4⟩ := or_f h
    by_cases e : j = p
    · subst e
      obtain ⟨h5, h6⟩ := or_f h3
      obtain ⟨h7, h8⟩ := or_f h5
      refine ⟨of_decide_eq_false h7, of_decide_eq_false h8, fun hx => ?_⟩
      rw [hx, Bool.true_and] at h6
      exact h6
    · exact ih (p + 1) h4 j (by omega) (by omega)
theorem vix {c : Int32} (h : xvar c = true) : (c - 97).toNatClampNeg < 8 := by
  obtain ⟨i, hi, e⟩ := vcaseN h
  rw [e, cl_nat (by omega)]
  exact hi
theorem xpv_nv (hv : ∀ j, j < 8 → zbt W j = false → e1.1 j = e2.1 j) (hp : xNV s W p) (hpl : xpl s p = (true, r)) : xpv s e1 p = xpv s e2 p := by
  unfold xpv
  cases hd : xdig (s p) with
  | true => rfl
  | false =>
    rw [decide_eq_false hp.1]
    show e1.1 (s p - 97).toNatClampNeg = e2.1 (s p - 97).toNatClampNeg
    have hx : xvar (s p) = true := by
      unfold xpl at hpl
      rw [hd, decide_eq_false hp.1] at hpl
      cases hx : xvar (s p) with
      | true => rfl
      | false => rw [hx] at hpl; exact ft_ne hpl
    exact hv _ (vix hx) (hp.2.2 hx)
theorem xbk_nv (hi : e1.2.1 = e2.2.1) (h : x ≠ 76) : xbk e1 x y = xbk e2 x y := by
  unfold xbk
  rw [hi, decide_eq_false h]
  rfl
theorem xe_nv (hi : e1.2.1 = e2.2.1) (hv : ∀ j, j < 8 → zbt W j = false → e1.1 j = e2.1 j) : ∀ (f p : Nat) (k : xKV) (sum sg : Int32) (t : Bool), xp s m f p (k.map Prod.fst) t = (true, q) → (∀ j, p ≤ j → j < q → xNV s W j) → (∀ x, x ∈ k → x.1 ≠ 76) → xe s e1 f p k sum sg t = xe s e2 f p k sum sg t := by
  intro f
  induction f with
  | zero => intro p k sum sg t h; exact ft_ne h
  | succ f ih =>
    intro p k sum sg t h hs hk
    cases t with
    | true =>
      have hpq := (xp_g _ _ _ _ _ h).2 rfl
      have hp := hs p (Nat.le_refl _) hpq
      rw [xe, xe]
      show (bif (xpl s p).1 then xe s e1 f (xpl s p).2 k (d_Mo_joined sum sg (xpv s e1 p)) sg false else bif (xop s p).1 then xe s e1 f (xop s p).2 ((s p, sum, sg) :: k) 0 43 true else none) = (bif (xpl s p).1 then xe s e2 f (xpl s p).2 k (d_Mo_joined sum sg (xpv s e2 p)) sg false else bif (xop s p).1 then xe s e2 f (xop s p).2 ((s p, sum, sg) :: k) 0 43 true else none)
      obtain ⟨b, r⟩ : ∃ b : Bool × Nat, xpl s p = b := ⟨_, rfl⟩
      obtain ⟨b, r'⟩ := b
      cases b with
      | true =>
        have g := xpl_g r
        rw [xp_pl r] at h
        rw [r, xpv_nv hv hp r]
        exact ih r' k _ sg false h (fun j h1 h2 => hs j (by omega) h2) hk
      | false =>
        obtain ⟨c1, c2, -⟩ := xpl_f r rfl
        rw [xp_op c1 c2] at h
        rw [r]
        show (bif (xop s p).1 then xe s e1 f (xop s p).2 ((s p, sum, sg) :: k) 0 43 true else none) = (bif (xop s p).1 then xe s e2 f (xop s p).2 ((s p, sum, sg) :: k) 0 43 true else none)
        rcases pd_cases h with ⟨c, h⟩ | ⟨c, h⟩
        · exact ft_ne h
        · cases ho : (xop s p).1 with
          | false => rfl
          | true =>
            rw [ho] at h
            have ho2 : xop s p = (true, (xop s p).2) := by rw [← ho]
            have g := xop_g ho2
            refine ih (xop s p).2 ((s p, sum, sg) :: k) 0 43 true h (fun j h1 h2 => hs j (by omega) h2) (fun x hx => ?_)
            rcases List.mem_cons.mp hx with e | e
            · rw [e]; exact hp.2.1
            · exact hk x e
    | false =>
      have h : (bif xsgn (s p) then xp s m f (p + 1) (k.map Prod.fst) true else bif (k.map Prod.fst).isEmpty then (true, p) else bif decide (s p = xclo ((k.map Prod.fst).headD 0)) then xp s m f (p + 1) (k.map Prod.fst).tail false else (false, p)) = (true, q) := by
        rw [xp] at h
        exact h
      rw [xe, xe]
      show (bif xsgn (s p) then xe s e1 f (p + 1) k sum (s p) true else bif k.isEmpty then some sum else bif !(decide (s p = xclo (k.headD (0, 0, 0)).1)) then none else (xbk e1 (k.headD (0, 0, 0)).1 sum).bind fun x => xe s e1 f (p + 1) k.tail (d_Mo_joined (k.headD (0, 0, 0)).2.1 (k.headD (0, 0, 0)).2.2 x) (k.headD (0, 0, 0)).2.2 false) = (bif xsgn (s p) then xe s e2 f (p + 1) k sum (s p) true else bif k.isEmpty then some sum else bif !(decide (s p = xclo (k.headD (0, 0, 0)).1)) then none else (xbk e2 (k.headD (0, 0, 0)).1 sum).bind fun x => xe s e2 f (p + 1) k.tail (d_Mo_joined (k.headD (0, 0, 0)).2.1 (k.headD (0, 0, 0)).2.2 x) (k.headD (0, 0, 0)).2.2 false)
      cases hsg : xsgn (s p) with
      | true =>
        rw [hsg] at h
        exact ih (p + 1) k sum (s p) true h (fun j h1 h2 => hs j (by omega) h2) hk
      | false =>
        rw [hsg] at h
        cases k with
        | nil => rfl
        | cons y k =>
          obtain ⟨c, sm, g⟩ := y
          have h : (bif decide (s p = xclo c) then xp s m f (p + 1) (k.map Prod.fst) false else (false, p)) = (true, q) := h
          show (bif !(decide (s p = xclo c)) then none else (xbk e1 c sum).bind fun x => xe s e1 f (p + 1) k (d_Mo_joined sm g x) g false) = (bif !(decide (s p = xclo c)) then none else (xbk e2 c sum).bind fun x => xe s e2 f (p + 1) k (d_Mo_joined sm g x) g false)
          rcases pd_cases h with ⟨c1, h⟩ | ⟨c1, h⟩
          · rw [c1, xbk_nv hi (hk (c, sm, g) List.mem_cons_self)]
            show (xbk e2 c sum).bind _ = (xbk e2 c sum).bind _
            cases xbk e2 c sum with
            | none => rfl
            | some z => exact ih (p + 1) k _ g false h (fun j h1 h2 => hs j (by omega) h2) (fun x hx => hk x (List.mem_cons_of_mem _ hx))
          · exact ft_ne h
/-- an expression that does not vary -/
theorem xw_nv (hn : n ≤ 160) (h0 : ∀ j, n ≤ j → s j = 0) (hp : p ≤ n) (hE : xE s p = (true, q)) (hd : xdf s p (q - p) W = false) (hi : e1.2.1 = e2.2.1) (hv : ∀ j, j < 8 → zbt W j = false → e1.1 j = e2.1 j) : xw s n e1 p = xw s n e2 p := by
  have g := xE_g hE
  rw [xq_E hn h0 hp] at hE
  unfold xq at hE
  unfold xw xv
  exact xe_nv hi hv (n + 2 - p) p [] 0 43 true hE (fun j h1 h2 => xdf_j (q - p) p hd j h1 (by omega)) (fun x hx => nomatch hx)
end YNV
