/-! the text: expressions, statements, and where each stands -/
def xdig (c : Int32) : Bool := decide (d_Mo_beyond c (48 : Int32) (57 : Int32) = 0)
def xvar (c : Int32) : Bool := decide (d_Mo_beyond c (97 : Int32) (104 : Int32) = 0)
def xsgn (c : Int32) : Bool := !(decide (d_Mo_isSign c = 0))
def xclo (c : Int32) : Int32 := bif decide (c = 40) then 41 else 93
def xnum (s : Nat → Int32) (p : Nat) : Nat := bif xdig (s (p + 1)) then (bif xdig (s (p + 2)) then p + 3 else p + 2) else p + 1
def xp (s : Nat → Int32) (m f p : Nat) (k : List Int32) (t : Bool) : Bool × Nat := match f with
  | 0 => (false, p)
  | f + 1 =>
    bif t then
      bif xdig (s p) then xp s m f (xnum s p) k false
      else bif decide (s p = 110) || xvar (s p) then xp s m f (p + 1) k false
      else bif decide (s p = 40) then (bif Nat.beq k.length m then (false, p) else xp s m f (p + 1) (40 :: k) true)
      else bif decide (s p = 73) || decide (s p = 76) then (bif Nat.beq k.length m || !(decide (s (p + 1) = 91)) then (false, p + 1) else xp s m f (p + 2) (s p :: k) true)
      else (false, p)
    else
      bif xsgn (s p) then xp s m f (p + 1) k true
      else bif k.isEmpty then (true, p) else bif decide (s p = xclo (k.headD 0)) then xp s m f (p + 1) k.tail false else (false, p)
def xo (s : Nat → Int32) (r : Bool × Nat) : Bool × Nat := bif r.1 then (bif decide (s r.2 = 93) then (true, r.2 + 1) else (false, r.2)) else r
def xfin (s : Nat → Int32) (r : Bool × Nat) : Bool × Nat := bif r.1 then (bif decide (s r.2 = 59) then (true, r.2 + 1) else (false, r.2)) else r
def xE (s : Nat → Int32) (p : Nat) : Bool × Nat := xp s 4 200 p [] true
def xE1 (s : Nat → Int32) (p : Nat) : Bool × Nat := xo s (xp s 3 200 p [] true)
def xst (s : Nat → Int32) (p : Nat) : Bool × Nat :=
  bif decide (s p = 79) then xfin s (xE s (p + 1))
  else bif decide (s p = 82) then xfin s (true, p + 1)
  else bif decide (s p = 76) then
    (bif decide (s (p + 1) = 91) then
      (bif (xE1 s (p + 2)).1 then (bif decide (s (xE1 s (p + 2)).2 = 61) then xfin s (xE s ((xE1 s (p + 2)).2 + 1)) else (false, (xE1 s (p + 2)).2)) else xE1 s (p + 2))
    else (false, p + 1))
  else bif decide (s p = 88) then
    (bif xvar (s (p + 1)) then (bif xvar (s (p + 2)) then xfin s (xE s (p + 3)) else (false, p + 2)) else (false, p + 1))
  else bif xvar (s p) then (bif decide (s (p + 1) = 61) then xfin s (xE s (p + 2)) else (false, p + 1))
  else (false, p)
abbrev xK : Type := List (Nat × Nat)
def xns (s : Nat → Int32) (p : Nat) (k : xK) : Bool × Nat × xK :=
  bif decide (s p = 125) && !k.isEmpty then
    (match k with
      | [] => (false, p, k)
      | (h, m) :: k' => bif Nat.beq m 1 && decide (s (p + 1) = 123) then (true, p + 2, (h, 2) :: k') else (true, p + 1, k'))
  else bif decide (s p = 63) || decide (s p = 42) then
    (bif (xE s (p + 1)).1 && (Nat.blt k.length 4 && decide (s (xE s (p + 1)).2 = 123)) then (true, (xE s (p + 1)).2 + 1, (p, bif decide (s p = 63) then 1 else 0) :: k) else (false, (xE s (p + 1)).2, k))
  else ((xst s p).1, (xst s p).2, k)
/-! signs -/
theorem bey0 {a l h : Int32} (q : d_Mo_beyond a l h = 0) : l.toInt ≤ a.toInt ∧ a.toInt ≤ h.toInt := by
  by_cases c : a < l
  · rw [bey_lo c] at q
    exact absurd q (by decide)
  · by_cases d : a ≤ h
    · have h1 : ¬ a.toInt < l.toInt := fun x => c (Int32.lt_iff_toInt_lt.mpr x)
      have h2 := Int32.le_iff_toInt_le.mp d
      omega
    · rw [bey_hi c d] at q
      exact absurd q (by decide)
theorem bey01 {a l h : Int32} : d_Mo_beyond a l h = 0 ∨ d_Mo_beyond a l h = 1 := by
  by_cases c : a < l
  · exact Or.inr (bey_lo c)
  · by_cases d : a ≤ h
    · exact Or.inl (bey_in c d)
    · exact Or.inr (bey_hi c d)
def xok (c : Int32) : Prop := c ≠ 123 ∧ c ≠ 125 ∧ c ≠ 59 ∧ c ≠ 0
theorem xdig_r {c : Int32} (h : xdig c = true) : 48 ≤ c.toInt ∧ c.toInt ≤ 57 := by
  have := bey0 (of_decide_eq_true h)
  have e1 : (48 : Int32).toInt = 48 := by decide
  have e2 : (57 : Int32).toInt = 57 := by decide
  omega
theorem xvar_r {c : Int32} (h : xvar c = true) : 97 ≤ c.toInt ∧ c.toInt ≤ 104 := by
  have := bey0 (of_decide_eq_true h)
  have e1 : (97 : Int32).toInt = 97 := by decide
  have e2 : (104 : Int32).toInt = 104 := by decide
  omega
theorem xok_r {c : Int32} (h : 1 ≤ c.toInt ∧ c.toInt ≤ 58 ∨ 60 ≤ c.toInt ∧ c.toInt ≤ 122) : xok c := by
  have e1 : (123 : Int32).toInt = 123 := by decide
  have e2 : (125 : Int32).toInt = 125 := by decide
  have e3 : (59 : Int32).toInt = 59 := by decide
  have e4 : (0 : Int32).toInt = 0 := by decide
  refine ⟨?_, ?_, ?_, ?_⟩ <;> (intro q; rw [q] at h; omega)
theorem xdig_ok {c : Int32} (h : xdig c = true) : xok c := by have := xdig_r h; exact xok_r (by omega)
theorem xvar_ok {c : Int32} (h : xvar c = true) : xok c := by have := xvar_r h; exact xok_r (by omega)
theorem xsgn_c {c : Int32} (h : xsgn c = true) : c = 43 ∨ c = 45 ∨ c = 42 ∨ c = 60 ∨ c = 61 ∨ c = 38 := by
  by_cases h1 : c = 43
  · exact Or.inl h1
  by_cases h2 : c = 45
  · exact Or.inr (Or.inl h2)
  by_cases h3 : c = 42
  · exact Or.inr (Or.inr (Or.inl h3))
  by_cases h4 : c = 60
  · exact Or.inr (Or.inr (Or.inr (Or.inl h4)))
  by_cases h5 : c = 61
  · exact Or.inr (Or.inr (Or.inr (Or.inr (Or.inl h5))))
  by_cases h6 : c = 38
  · exact Or.inr (Or.inr (Or.inr (Or.inr (Or.inr h6))))
  exfalso
  unfold xsgn d_Mo_isSign at h
  rw [decide_eq_false h1, decide_eq_false h2, decide_eq_false h3, decide_eq_false h4, decide_eq_false h5, decide_eq_false h6] at h
  exact absurd h (by decide)
theorem xsgn_ok {c : Int32} (h : xsgn c = true) : xok c := by
  rcases xsgn_c h with rfl | rfl | rfl | rfl | rfl | rfl <;> (unfold xok; decide)
theorem xclo_c (c : Int32) : xclo c = 41 ∨ xclo c = 93 := by
  unfold xclo
  cases decide (c = 40)
  · exact Or.inr rfl
  · exact Or.inl rfl
theorem xclo_ok {a c : Int32} (h : a = xclo c) : xok a := by
  rcases xclo_c c with e | e <;> rw [h, e] <;> (unfold xok; decide)
theorem eq_ok {a b : Int32} (h : decide (a = b) = true) (hb : xok b) : xok a := by rw [of_decide_eq_true h]; exact hb
/-! what an expression spans -/
def xrg (s : Nat → Int32) (p q : Nat) : Prop := p ≤ q ∧ ∀ j, p ≤ j → j < q → xok (s j)
theorem xrg_0 {s : Nat → Int32} {p : Nat} : xrg s p p := ⟨Nat.le_refl _, fun j a b => by omega⟩
theorem xrg_t {s : Nat → Int32} {p r q : Nat} (h1 : xrg s p r) (h2 : xrg s r q) : xrg s p q :=
  ⟨Nat.le_trans h1.1 h2.1, fun j a b => by
    by_cases e : j < r
    · exact h1.2 j a e
    · exact h2.2 j (by omega) b⟩
theorem xrg_1 {s : Nat → Int32} {p : Nat} (h : xok (s p)) : xrg s p (p + 1) := ⟨by omega, fun j a b => by
  have e : j = p := by omega
  subst e
  exact h⟩
theorem xrg_s {s : Nat → Int32} {p q : Nat} (h : xok (s p)) (h2 : xrg s (p + 1) q) : xrg s p q := xrg_t (xrg_1 h) h2
theorem xnum_g {s : Nat → Int32} {p : Nat} (h : xdig (s p) = true) : xrg s p (xnum s p) ∧ p < xnum s p := by
  unfold xnum
  cases c1 : xdig (s (p + 1)) with
  | false => exact ⟨xrg_1 (xdig_ok h), by show p < p + 1; omega⟩
  | true =>
    cases c2 : xdig (s (p + 2)) with
    | false => exact ⟨xrg_s (xdig_ok h) (xrg_1 (xdig_ok c1)), by show p < p + 2; omega⟩
    | true => exact ⟨xrg_s (xdig_ok h) (xrg_s (xdig_ok c1) (xrg_1 (xdig_ok c2))), by show p < p + 3; omega⟩
theorem or_c {a b : Bool} (h : (a || b) = true) : a = true ∨ b = true := by
  cases a
  · exact Or.inr h
  · exact Or.inl rfl
theorem nott {a : Bool} (h : (!a) = false) : a = true := by cases a <;> first | rfl | exact absurd h (by decide)
theorem or_f {a b : Bool} (h : (a || b) = false) : a = false ∧ b = false := by cases a <;> cases b <;> first | exact ⟨rfl, rfl⟩ | exact absurd h (by decide)
theorem and_c {a b : Bool} (h : (a && b) = true) : a = true ∧ b = true := by cases a <;> cases b <;> first | exact ⟨rfl, rfl⟩ | exact absurd h (by decide)
theorem ft_ne {α : Type} {a : α} {b : α} {P : Prop} (h : (false, a) = (true, b)) : P := nomatch (show false = true from congrArg Prod.fst h)
theorem xp_g {s : Nat → Int32} {m : Nat} : ∀ (f p : Nat) (k : List Int32) (t : Bool) (q : Nat), xp s m f p k t = (true, q) → xrg s p q ∧ (t = true → p < q) := by
  intro f
  induction f with
  | zero => intro p k t q h; exact ft_ne h
  | succ f ih =>
    intro p k t q h
    rw [xp] at h
    rcases pd_cases h with ⟨ct, h⟩ | ⟨ct, h⟩
    · rcases pd_cases h with ⟨c, h⟩ | ⟨c, h⟩
      · have h1 := (ih _ _ _ _ h).1
        have h2 := xnum_g c
        exact ⟨xrg_t h2.1 h1, fun _ => by have := h1.1; omega⟩
      · rcases pd_cases h with ⟨c, h⟩ | ⟨c, h⟩
        · have h1 := (ih _ _ _ _ h).1
          refine ⟨xrg_s ?_ h1, fun _ => by have := h1.1; omega⟩
          rcases or_c c with c | c
          · exact eq_ok c (by unfold xok; decide)
          · exact xvar_ok c
        · rcases pd_cases h with ⟨c, h⟩ | ⟨c, h⟩
          · rcases pd_cases h with ⟨c2, h⟩ | ⟨c2, h⟩
            · exact ft_ne h
            · have h1 := (ih _ _ _ _ h).1
              exact ⟨xrg_s (eq_ok c (by unfold xok; decide)) h1, fun _ => by have := h1.1; omega⟩
          · rcases pd_cases h with ⟨c, h⟩ | ⟨c, h⟩
            · rcases pd_cases h with ⟨c2, h⟩ | ⟨c2, h⟩
              · exact ft_ne h
              · have h1 := (ih _ _ _ _ h).1
                have h2 := nott (or_f c2).2
                refine ⟨xrg_s ?_ (xrg_s (eq_ok h2 (by unfold xok; decide)) h1), fun _ => by have := h1.1; omega⟩
                rcases or_c c with c | c
                · exact eq_ok c (by unfold xok; decide)
                · exact eq_ok c (by unfold xok; decide)
            · exact ft_ne h
    · refine ⟨?_, fun e => absurd (ct.symm.trans e) (by decide)⟩
      rcases pd_cases h with ⟨c, h⟩ | ⟨c, h⟩
      · exact xrg_s (xsgn_ok c) (ih _ _ _ _ h).1
      · cases k with
        | nil =>
          have e : p = q := congrArg Prod.snd h
          subst e
          exact xrg_0
        | cons a k =>
          have h : (bif decide (s p = xclo a) then xp s m f (p + 1) k false else (false, p)) = (true, q) := h
          rcases pd_cases h with ⟨c2, h⟩ | ⟨c2, h⟩
          · exact xrg_s (xclo_ok (of_decide_eq_true c2)) (ih _ _ _ _ h).1
          · exact ft_ne h
theorem xE_g {s : Nat → Int32} {p q : Nat} (h : xE s p = (true, q)) : xrg s p q ∧ p < q := ⟨(xp_g _ _ _ _ _ h).1, (xp_g _ _ _ _ _ h).2 rfl⟩
theorem xE1_c {s : Nat → Int32} {p q : Nat} (h : xE1 s p = (true, q)) : ∃ r, xp s 3 200 p [] true = (true, r) ∧ s r = 93 ∧ q = r + 1 := by
  unfold xE1 xo at h
  rcases pd_cases h with ⟨c, h⟩ | ⟨c, h⟩
  · rcases pd_cases h with ⟨c2, h⟩ | ⟨c2, h⟩
    · exact ⟨_, Prod.ext c rfl, of_decide_eq_true c2, (congrArg Prod.snd h).symm⟩
    · exact ft_ne h
  · rw [h] at c
    exact absurd (show true = false from c) (by decide)
theorem xfin_c {s : Nat → Int32} {r : Bool × Nat} {q : Nat} (h : xfin s r = (true, q)) : ∃ e, r = (true, e) ∧ s e = 59 ∧ q = e + 1 := by
  unfold xfin at h
  rcases pd_cases h with ⟨c, h⟩ | ⟨c, h⟩
  · rcases pd_cases h with ⟨c2, h⟩ | ⟨c2, h⟩
    · exact ⟨r.2, Prod.ext c rfl, of_decide_eq_true c2, (congrArg Prod.snd h).symm⟩
    · exact ft_ne h
  · rw [h] at c
    exact absurd (show true = false from c) (by decide)
/-! the simple statements -/
def XS (s : Nat → Int32) (p e : Nat) : Prop :=
  (s p = 79 ∧ xE s (p + 1) = (true, e))
  ∨ (s p = 82 ∧ e = p + 1)
  ∨ (s p = 76 ∧ s (p + 1) = 91 ∧ ∃ r, xp s 3 200 (p + 2) [] true = (true, r) ∧ s r = 93 ∧ s (r + 1) = 61 ∧ xE s (r + 2) = (true, e))
  ∨ (s p = 88 ∧ xvar (s (p + 1)) = true ∧ xvar (s (p + 2)) = true ∧ xE s (p + 3) = (true, e))
  ∨ (xvar (s p) = true ∧ s (p + 1) = 61 ∧ xE s (p + 2) = (true, e))
theorem xst_c {s : Nat → Int32} {p q : Nat} (h : xst s p = (true, q)) : ∃ e, q = e + 1 ∧ s e = 59 ∧ p < e ∧ xrg s p e ∧ XS s p e := by
  unfold xst at h
  rcases pd_cases h with ⟨c, h⟩ | ⟨c, h⟩
  · obtain ⟨e, h1, h2, h3⟩ := xfin_c h
    have g := xE_g h1
    exact ⟨e, h3, h2, by omega, xrg_s (eq_ok c (by unfold xok; decide)) g.1, Or.inl ⟨of_decide_eq_true c, h1⟩⟩
  rcases pd_cases h with ⟨c, h⟩ | ⟨c, h⟩
  · obtain ⟨e, h1, h2, h3⟩ := xfin_c h
    have h4 : p + 1 = e := congrArg Prod.snd h1
    subst h4
    exact ⟨p + 1, h3, h2, by omega, xrg_1 (eq_ok c (by unfold xok; decide)), Or.inr (Or.inl ⟨of_decide_eq_true c, rfl⟩)⟩
  rcases pd_cases h with ⟨c, h⟩ | ⟨c, h⟩
  · rcases pd_cases h with ⟨c2, h⟩ | ⟨c2, h⟩
    · rcases pd_cases h with ⟨c3, h⟩ | ⟨c3, h⟩
      · rcases pd_cases h with ⟨c4, h⟩ | ⟨c4, h⟩
        · obtain ⟨e, h1, h2, h3⟩ := xfin_c h
          obtain ⟨r, g1, g2, g3⟩ := xE1_c (s := s) (p := p + 2) (q := (xE1 s (p + 2)).2) (Prod.ext c3 rfl)
          rw [g3] at c4 h1
          have g4 := (xp_g _ _ _ _ _ g1).1
          have g5 := xE_g h1
          have o1 : xok (s r) := by rw [g2]; unfold xok; decide
          refine ⟨e, h3, h2, by have := g4.1; omega, xrg_s (eq_ok c (by unfold xok; decide)) (xrg_s (eq_ok c2 (by unfold xok; decide)) (xrg_t g4 (xrg_s o1 (xrg_s (eq_ok c4 (by unfold xok; decide)) g5.1)))), ?_⟩
          exact Or.inr (Or.inr (Or.inl ⟨of_decide_eq_true c, of_decide_eq_true c2, r, g1, g2, of_decide_eq_true c4, h1⟩))
        · exact ft_ne h
      · rw [h] at c3
        exact absurd (show true = false from c3) (by decide)
    · exact ft_ne h
  rcases pd_cases h with ⟨c, h⟩ | ⟨c, h⟩
  · rcases pd_cases h with ⟨c2, h⟩ | ⟨c2, h⟩
    · rcases pd_cases h with ⟨c3, h⟩ | ⟨c3, h⟩
      · obtain ⟨e, h1, h2, h3⟩ := xfin_c h
        have g := xE_g h1
        refine ⟨e, h3, h2, by omega, xrg_s (eq_ok c (by unfold xok; decide)) (xrg_s (xvar_ok c2) (xrg_s (xvar_ok c3) g.1)), ?_⟩
        exact Or.inr (Or.inr (Or.inr (Or.inl ⟨of_decide_eq_true c, c2, c3, h1⟩)))
      · exact ft_ne h
    · exact ft_ne h
  rcases pd_cases h with ⟨c, h⟩ | ⟨c, h⟩
  · rcases pd_cases h with ⟨c2, h⟩ | ⟨c2, h⟩
    · obtain ⟨e, h1, h2, h3⟩ := xfin_c h
      have g := xE_g h1
      refine ⟨e, h3, h2, by omega, xrg_s (xvar_ok c) (xrg_s (eq_ok c2 (by unfold xok; decide)) g.1), ?_⟩
      exact Or.inr (Or.inr (Or.inr (Or.inr ⟨c, of_decide_eq_true c2, h1⟩)))
    · exact ft_ne h
  · exact ft_ne h
theorem XS_h {s : Nat → Int32} {p e : Nat} (h : XS s p e) : s p ≠ 125 ∧ s p ≠ 63 ∧ s p ≠ 42 := by
  rcases h with ⟨h, -⟩ | ⟨h, -⟩ | ⟨h, -⟩ | ⟨h, -⟩ | ⟨h, -⟩
  · rw [h]; decide
  · rw [h]; decide
  · rw [h]; decide
  · rw [h]; decide
  · have := xvar_r h
    have e1 : (125 : Int32).toInt = 125 := by decide
    have e2 : (63 : Int32).toInt = 63 := by decide
    have e3 : (42 : Int32).toInt = 42 := by decide
    refine ⟨?_, ?_, ?_⟩ <;> (intro q; rw [q] at this; omega)
