/-! the way through a text, from statement to statement -/
def xit (s : Nat → Int32) (i : Nat) (x : Nat × xK) : Option (Nat × xK) := match i with
  | 0 => some x
  | i + 1 => bif (xns s x.1 x.2).1 then xit s i (xns s x.1 x.2).2 else none
def xR (s : Nat → Int32) (p : Nat) (k : xK) : Prop := ∃ i, xit s i (0, []) = some (p, k)
section TR
variable {s : Nat → Int32} {n p p' : Nat} {k k' : xK}
theorem xit_add {x : Nat × xK} (i j : Nat) : xit s (i + j) x = (xit s i x).bind (xit s j) := by
  induction i generalizing x with
  | zero => rw [Nat.zero_add]; rfl
  | succ i ih =>
    rw [show i + 1 + j = (i + j) + 1 by omega, xit, xit]
    cases (xns s x.1 x.2).1
    · rfl
    · exact ih
theorem xit_1 (h : xit s 1 (p, k) = some (p', k')) : xns s p k = (true, p', k') := by
  rw [xit] at h
  rcases pd_cases h with ⟨c, h⟩ | ⟨c, h⟩
  · exact Prod.ext c (Option.some.inj h)
  · exact nomatch h
theorem xR_s (h : xR s p k) (e : xns s p k = (true, p', k')) : xR s p' k' := by
  obtain ⟨i, hi⟩ := h
  refine ⟨i + 1, ?_⟩
  rw [xit_add, hi]
  show xit s 1 (p, k) = _
  rw [xit]
  show (bif (xns s p k).1 then xit s 0 (xns s p k).2 else none) = _
  rw [e]
  rfl
theorem xns_c (h : xns s p k = (true, p', k')) :
    (s p = 125 ∧ ∃ a m k0, k = (a, m) :: k0 ∧ ((m = 1 ∧ s (p + 1) = 123 ∧ p' = p + 2 ∧ k' = (a, 2) :: k0) ∨ (¬ (m = 1 ∧ s (p + 1) = 123) ∧ p' = p + 1 ∧ k' = k0)))
    ∨ ((s p = 63 ∨ s p = 42) ∧ ∃ r, xE s (p + 1) = (true, r) ∧ k.length < 4 ∧ s r = 123 ∧ p' = r + 1 ∧ k' = (p, bif decide (s p = 63) then 1 else 0) :: k)
    ∨ (∃ e, p' = e + 1 ∧ k' = k ∧ s e = 59 ∧ p < e ∧ xrg s p e ∧ XS s p e) := by
  unfold xns at h
  rcases pd_cases h with ⟨c, h⟩ | ⟨c, h⟩
  · refine Or.inl ⟨of_decide_eq_true (and_c c).1, ?_⟩
    cases k with
    | nil => exact absurd (and_c c).2 (by decide)
    | cons x k0 =>
      obtain ⟨a, m⟩ := x
      refine ⟨a, m, k0, rfl, ?_⟩
      rcases pd_cases h with ⟨c2, h⟩ | ⟨c2, h⟩
      · have c3 := and_c c2
        exact Or.inl ⟨Nat.eq_of_beq_eq_true c3.1, of_decide_eq_true c3.2, (congrArg (fun x => x.2.1) h).symm, (congrArg (fun x => x.2.2) h).symm⟩
      · refine Or.inr ⟨?_, (congrArg (fun x => x.2.1) h).symm, (congrArg (fun x => x.2.2) h).symm⟩
        rintro ⟨e1, e2⟩
        rw [e1, decide_eq_true e2] at c2
        exact absurd c2 (by decide)
  rcases pd_cases h with ⟨c, h⟩ | ⟨c, h⟩
  · refine Or.inr (Or.inl ⟨?_, ?_⟩)
    · rcases or_c c with c | c
      · exact Or.inl (of_decide_eq_true c)
      · exact Or.inr (of_decide_eq_true c)
    · rcases pd_cases h with ⟨c2, h⟩ | ⟨c2, h⟩
      · have c3 := and_c c2
        have c4 := and_c c3.2
        refine ⟨(xE s (p + 1)).2, Prod.ext c3.1 rfl, ?_, of_decide_eq_true c4.2, (congrArg (fun x => x.2.1) h).symm, (congrArg (fun x => x.2.2) h).symm⟩
        have := c4.1
        rw [Nat.blt_eq] at this
        exact this
      · exact ft_ne h
  · have h2 : (xst s p).1 = true := congrArg (fun x : Bool × Nat × xK => x.1) h
    have h3 : (xst s p).2 = p' := congrArg (fun x : Bool × Nat × xK => x.2.1) h
    have h1 : xst s p = (true, p') := Prod.ext h2 h3
    obtain ⟨e, g1, g2, g3, g4, g5⟩ := xst_c h1
    exact Or.inr (Or.inr ⟨e, g1, (congrArg (fun x => x.2.2) h).symm, g2, g3, g4, g5⟩)
theorem xns_0 (h : xns s p k = (true, p', k')) : s p ≠ 0 := by
  rcases xns_c h with ⟨h, -⟩ | ⟨h | h, -⟩ | ⟨e, -, -, -, h3, h4, -⟩
  · rw [h]; decide
  · rw [h]; decide
  · rw [h]; decide
  · exact (h4.2 p (Nat.le_refl _) h3).2.2.2
theorem xns_lt (hn : ∀ j, n ≤ j → s j = 0) (h : xns s p k = (true, p', k')) : p < n := by
  rcases Nat.lt_or_ge p n with c | c
  · exact c
  · exact absurd (hn p c) (xns_0 h)
theorem xR_n (hn : ∀ j, n ≤ j → s j = 0) (hw : xR s n []) (h : xR s p k) : (p = n ∧ k = []) ∨ ∃ p' k', xns s p k = (true, p', k') := by
  obtain ⟨m, hm⟩ := hw
  obtain ⟨i, hi⟩ := h
  rcases Nat.lt_or_ge i m with c | c
  · right
    rw [show m = i + ((m - i - 1) + 1) by omega, xit_add, hi] at hm
    have hm2 : xit s ((m - i - 1) + 1) (p, k) = some (n, []) := hm
    rw [xit] at hm2
    rcases pd_cases hm2 with ⟨c1, -⟩ | ⟨-, h⟩
    · exact ⟨(xns s p k).2.1, (xns s p k).2.2, Prod.ext c1 rfl⟩
    · exact nomatch h
  · left
    rw [show i = m + (i - m) by omega, xit_add, hm] at hi
    have hi2 : xit s (i - m) (n, []) = some (p, k) := hi
    cases e : i - m with
    | zero =>
      rw [e] at hi2
      have h3 : (n, ([] : xK)) = (p, k) := Option.some.inj hi2
      exact ⟨(congrArg Prod.fst h3).symm, (congrArg Prod.snd h3).symm⟩
    | succ j =>
      rw [e, xit] at hi2
      rcases pd_cases hi2 with ⟨c1, -⟩ | ⟨-, h⟩
      · exact absurd (hn n (Nat.le_refl _)) (xns_0 (s := s) (p := n) (k := []) (p' := (xns s n []).2.1) (k' := (xns s n []).2.2) (Prod.ext c1 rfl))
      · exact nomatch h
/-! the blocks that are open -/
def xSI (s : Nat → Int32) : xK → Prop
  | [] => True
  | (h, m) :: k => xR s h k ∧ (m = 0 ∧ s h = 42 ∨ (m = 1 ∨ m = 2) ∧ s h = 63) ∧ (∃ r, xE s (h + 1) = (true, r) ∧ s r = 123) ∧ k.length < 4 ∧ xSI s k
theorem xR_i : ∀ (i p : Nat) (k : xK), xit s i (0, []) = some (p, k) → xSI s k := by
  intro i
  induction i with
  | zero =>
    intro p k h
    have e : ([] : xK) = k := congrArg Prod.snd (Option.some.inj h)
    subst e
    exact trivial
  | succ i ih =>
    intro p k h
    rw [xit_add] at h
    obtain ⟨⟨p0, k0⟩, h1, h2⟩ := pd_bind h
    have h3 := ih p0 k0 h1
    rcases xns_c (xit_1 h2) with ⟨-, a, m, k1, e1, h4⟩ | ⟨h4, r, g1, g2, g3, g4, g5⟩ | ⟨e, -, g, -⟩
    · subst e1
      obtain ⟨t1, t2, t3, t4, t5⟩ := h3
      rcases h4 with ⟨m1, -, -, ek⟩ | ⟨-, -, ek⟩
      · subst ek
        refine ⟨t1, Or.inr ⟨Or.inr rfl, ?_⟩, t3, t4, t5⟩
        rcases t2 with ⟨t, -⟩ | ⟨-, t⟩
        · omega
        · exact t
      · subst ek
        exact t5
    · subst g5
      refine ⟨⟨i, h1⟩, ?_, ⟨r, g1, g3⟩, g2, h3⟩
      by_cases c : s p0 = 63
      · rw [decide_eq_true c]
        exact Or.inr ⟨Or.inl rfl, c⟩
      · rw [decide_eq_false c]
        exact Or.inl ⟨rfl, h4.resolve_left c⟩
    · subst g
      exact h3
theorem xR_SI (h : xR s p k) : xSI s k := by
  obtain ⟨i, hi⟩ := h
  exact xR_i i p k hi
theorem xSI_4 (h : xSI s k) : k.length ≤ 4 := by
  cases k with
  | nil => exact Nat.zero_le _
  | cons x k =>
    obtain ⟨a, m⟩ := x
    have := h.2.2.2.1
    show k.length + 1 ≤ 4
    omega
theorem xns_b {r : Nat} (h : s p = 63 ∨ s p = 42) (h1 : xE s (p + 1) = (true, r)) (h2 : k.length < 4) (h3 : s r = 123) : xns s p k = (true, r + 1, (p, bif decide (s p = 63) then 1 else 0) :: k) := by
  unfold xns
  have c1 : s p ≠ 125 := by rcases h with h | h <;> (rw [h]; decide)
  have c2 : (decide (s p = 63) || decide (s p = 42)) = true := by rcases h with h | h <;> (rw [h]; decide)
  have c3 : Nat.blt k.length 4 = true := by rw [Nat.blt_eq]; exact h2
  rw [decide_eq_false c1, c2, h1, c3]
  show (bif true && (true && decide (s r = 123)) then _ else _) = _
  rw [decide_eq_true h3]
  rfl
/-! the end of a block -/
def xbh (s : Nat → Int32) (f d p : Nat) : Option Nat := match f with
  | 0 => none
  | f + 1 => bif decide (s p = 125) then (bif Nat.ble d 1 then some (p + 1) else xbh s f (d - 1) (p + 1)) else bif decide (s p = 123) then xbh s f (d + 1) (p + 1) else xbh s f d (p + 1)
theorem xbh_1 {f d : Nat} (h : s p ≠ 125) (h2 : s p ≠ 123) : xbh s (f + 1) d p = xbh s f d (p + 1) := by
  rw [xbh, decide_eq_false h, decide_eq_false h2]
  rfl
theorem xbh_o {f d : Nat} (h : s p = 123) : xbh s (f + 1) d p = xbh s f (d + 1) (p + 1) := by
  rw [xbh, h]
  rfl
theorem xbh_c {f d : Nat} (h : s p = 125) (hd : 1 < d) : xbh s (f + 1) d p = xbh s f (d - 1) (p + 1) := by
  have e : Nat.ble d 1 = false := by
    cases q : Nat.ble d 1
    · rfl
    · exact absurd (Nat.le_of_ble_eq_true q) (by omega)
  rw [xbh, h, e]
  rfl
theorem xbh_g {f d : Nat} (j : Nat) : ∀ p, xrg s p (p + j) → xbh s (f + j) d p = xbh s f d (p + j) := by
  induction j with
  | zero => intro p _; rfl
  | succ j ih =>
    intro p h
    have h1 := h.2 p (Nat.le_refl _) (by omega)
    rw [show f + (j + 1) = (f + j) + 1 by omega, xbh_1 h1.2.1 h1.1, ih (p + 1) ⟨by omega, fun i a b => h.2 i (by omega) (by omega)⟩, show p + 1 + j = p + (j + 1) by omega]
theorem xbh_r {f d q : Nat} (h : xrg s p q) : xbh s (f + (q - p)) d p = xbh s f d q := by
  have := h.1
  have e := xbh_g (s := s) (f := f) (d := d) (q - p) p (by rw [show p + (q - p) = q by omega]; exact h)
  rw [show p + (q - p) = q by omega] at e
  exact e
theorem xskip (hn : ∀ j, n ≤ j → s j = 0) (hw : xR s n []) : ∀ (g : Nat) (es : xK) (p : Nat) (b : Nat × Nat) (k0 : xK), n - p < g → xR s p (es ++ b :: k0) → ∃ c, p ≤ c ∧ c < n ∧ s c = 125 ∧ xR s c (b :: k0) ∧ ∃ f0, f0 + p ≤ n + 1 ∧ ∀ f, xbh s (f + f0) (es.length + 1) p = some (c + 1) := by
  intro g
  induction g with
  | zero => intro es p b k0 h; exact absurd h (Nat.not_lt_zero _)
  | succ g ih =>
    intro es p b k0 hg hR
    rcases xR_n hn hw hR with ⟨-, e⟩ | ⟨p', k', hs⟩
    · cases es <;> exact nomatch e
    have hp := xns_lt hn hs
    have hR' := xR_s hR hs
    rcases xns_c hs with ⟨h1, a, m, k1, e1, h4⟩ | ⟨h4, r, g1, g2, g3, g4, g5⟩ | ⟨e, g1, g2, g3, g4, g5, g6⟩
    · cases es with
      | nil =>
        refine ⟨p, Nat.le_refl _, hp, h1, hR, 1, by omega, fun f => ?_⟩
        rw [xbh, h1]
        rfl
      | cons x es =>
        have e2 : es ++ b :: k0 = k1 := (List.cons.inj e1).2
        subst e2
        rcases h4 with ⟨m1, m2, m3, ek⟩ | ⟨-, m3, ek⟩
        · subst m3 ek
          obtain ⟨c, q1, q2, q3, q4, f0, q5, q6⟩ := ih ((a, 2) :: es) (p + 2) b k0 (by omega) hR'
          refine ⟨c, by omega, q2, q3, q4, f0 + 2, by omega, fun f => ?_⟩
          rw [show f + (f0 + 2) = ((f + f0) + 1) + 1 by omega, xbh_c h1 (by show 1 < es.length + 1 + 1; omega), xbh_o m2]
          have := q6 f
          exact this
        · subst m3 ek
          obtain ⟨c, q1, q2, q3, q4, f0, q5, q6⟩ := ih es (p + 1) b k0 (by omega) hR'
          refine ⟨c, by omega, q2, q3, q4, f0 + 1, by omega, fun f => ?_⟩
          rw [show f + (f0 + 1) = (f + f0) + 1 by omega, xbh_c h1 (by show 1 < es.length + 1 + 1; omega)]
          exact q6 f
    · have g6 := xE_g g1
      have o : xok (s p) := by rcases h4 with h4 | h4 <;> (rw [h4]; unfold xok; decide)
      have g7 := xrg_s o g6.1
      have g8 := g7.1
      have hr : r < n := by
        rcases Nat.lt_or_ge r n with c | c
        · exact c
        · rw [hn r c] at g3
          exact absurd g3 (by decide)
      subst g4 g5
      obtain ⟨c, q1, q2, q3, q4, f0, q5, q6⟩ := ih ((p, bif decide (s p = 63) then 1 else 0) :: es) (r + 1) b k0 (by omega) hR'
      refine ⟨c, by omega, q2, q3, q4, f0 + 1 + (r - p), by omega, fun f => ?_⟩
      rw [show f + (f0 + 1 + (r - p)) = (f + f0 + 1) + (r - p) by omega, xbh_r g7, xbh_o g3]
      exact q6 f
    · have he : e < n := by
        rcases Nat.lt_or_ge e n with c | c
        · exact c
        · rw [hn e c] at g3
          exact absurd g3 (by decide)
      subst g1 g2
      obtain ⟨c, q1, q2, q3, q4, f0, q5, q6⟩ := ih es (e + 1) b k0 (by omega) hR'
      refine ⟨c, by omega, q2, q3, q4, f0 + 1 + (e - p), by omega, fun f => ?_⟩
      rw [show f + (f0 + 1 + (e - p)) = (f + f0 + 1) + (e - p) by omega, xbh_r g5, xbh_1 (by rw [g3]; decide) (by rw [g3]; decide)]
      exact q6 f
end TR
