/-! one lane by itself: the text's own way -/
/-- place, open blocks, the lane's data -/
abbrev xAS : Type := Nat × xK × xLD
/-- behind a closing brace -/
def zlb (s : Nat → Int32) (x : Nat × xK) : Nat × xK := match x.2 with
  | [] => x
  | (h, m) :: k0 => bif Nat.beq m 0 then (h, k0) else bif Nat.beq m 1 && decide (s (x.1 + 1) = 123) then (zb1 s (x.1 + 1), k0) else (x.1 + 1, k0)
/-- behind all closing braces -/
def zbw (s : Nat → Int32) : Nat → Nat × xK → Nat × xK
  | 0, x => x
  | d + 1, x => bif decide (s x.1 = 125) then zbw s d (zlb s x) else x
/-- stopped, at the end, or at an X -/
def zhl (s : Nat → Int32) (n : Nat) (Y : xAS) : Bool := Y.2.2.2.2.2.2.2 || (Nat.ble n Y.1 || decide (s Y.1 = 88))
/-- a statement is done -/
def zls (s : Nat → Int32) (n : Nat) (inp : Nat → Int32) (l : Nat) (Y : xAS) : xAS :=
  bif decide (s Y.1 = 63) || decide (s Y.1 = 42) then
    (bif decide ((zdc s n inp l Y.1 (Y.1 + 1) Y.2.2).1 = 0) then
      (bif decide (s Y.1 = 63) && decide (s (zb1 s (xE s (Y.1 + 1)).2) = 123) then (zb1 s (xE s (Y.1 + 1)).2 + 1, (Y.1, 2) :: Y.2.1, (zdc s n inp l Y.1 (Y.1 + 1) Y.2.2).2) else (zb1 s (xE s (Y.1 + 1)).2, Y.2.1, (zdc s n inp l Y.1 (Y.1 + 1) Y.2.2).2))
    else ((xns s Y.1 Y.2.1).2.1, (xns s Y.1 Y.2.1).2.2, (zdc s n inp l Y.1 (Y.1 + 1) Y.2.2).2))
  else ((xns s Y.1 Y.2.1).2.1, (xns s Y.1 Y.2.1).2.2, zac s n inp l Y.1 Y.2.2)
def zln (s : Nat → Int32) (n : Nat) (inp : Nat → Int32) (l : Nat) (Y : xAS) : xAS := ((zbw s 200 ((zls s n inp l Y).1, (zls s n inp l Y).2.1)).1, (zbw s 200 ((zls s n inp l Y).1, (zls s n inp l Y).2.1)).2, (zls s n inp l Y).2.2)
/-- on, with so much fuel: whether it did, what is left, where the lane is -/
def zgl (s : Nat → Int32) (n : Nat) (inp : Nat → Int32) (l : Nat) : Nat → xAS → Bool × Nat × xAS
  | 0, Y => (zhl s n Y, 0, Y)
  | L + 1, Y => bif zhl s n Y then (true, L + 1, Y) else zgl s n inp l L (zln s n inp l Y)
section YLN
variable {s : Nat → Int32} {n m w p p' q j e c o h r N i1 a b l z d d' : Nat} {k k' k0 : xK} {inp : Nat → Int32} {D : xLD} {x : Nat × xK}
theorem zlb_0 : zlb s (p, (h, 0) :: k0) = (h, k0) := rfl
theorem zlb_1 (hs : s (p + 1) = 123) : zlb s (p, (h, 1) :: k0) = (zb1 s (p + 1), k0) := by
  show (bif Nat.beq 1 1 && decide (s (p + 1) = 123) then (zb1 s (p + 1), k0) else (p + 1, k0)) = _
  rw [decide_eq_true hs]
  rfl
theorem zlb_n (h0 : m ≠ 0) (hm : ¬ (m = 1 ∧ s (p + 1) = 123)) : zlb s (p, (h, m) :: k0) = (p + 1, k0) := by
  show (bif Nat.beq m 0 then (h, k0) else bif Nat.beq m 1 && decide (s (p + 1) = 123) then (zb1 s (p + 1), k0) else (p + 1, k0)) = _
  rw [beq_f h0, nel hm]
  rfl
/-- a brace closes a block -/
theorem brk (h0 : ∀ j, n ≤ j → s j = 0) (hW : xR s n []) (hR : xR s p k) (hp : s p = 125) : p < n ∧ ∃ h m k0, k = (h, m) :: k0 := by
  have hpn := lt_n h0 hp (by decide)
  refine ⟨hpn, ?_⟩
  rcases xR_n h0 hW hR with ⟨e, -⟩ | ⟨p', k', hs⟩
  · omega
  · rcases xns_c hs with ⟨-, a, m, k0, ek, -⟩ | ⟨t | t, -⟩ | ⟨e, -, -, -, -, -, t⟩
    · exact ⟨a, m, k0, ek⟩
    · rw [hp] at t; exact absurd t (by decide)
    · rw [hp] at t; exact absurd t (by decide)
    · exact absurd hp (XS_h t).1
theorem zlb_t (hn : n ≤ 160) (h0 : ∀ j, n ≤ j → s j = 0) (hW : xR s n []) (hR : xR s p k) (hp : s p = 125) : xR s (zlb s (p, k)).1 (zlb s (p, k)).2 ∧ (p < (zlb s (p, k)).1 ∨ s (zlb s (p, k)).1 = 42) := by
  obtain ⟨hpn, h, m, k0, rfl⟩ := brk h0 hW hR hp
  obtain ⟨si1, si2, -⟩ := xR_SI hR
  rcases si2 with ⟨m0, hs42⟩ | ⟨hm, -⟩
  · subst m0
    rw [zlb_0]
    exact ⟨si1, Or.inr hs42⟩
  · by_cases c : m = 1 ∧ s (p + 1) = 123
    · obtain ⟨c1, c2⟩ := c
      subst c1
      have hp1 := lt_n h0 c2 (by decide)
      obtain ⟨b, b1, b2, b3, b4, b5⟩ := zb1_t hn h0 hW (xcl_e hp rfl c2 hR) hp1
      rw [zlb_1 c2, b5]
      exact ⟨xcl_n b3 (by omega) b4, Or.inl (show p < b + 1 by omega)⟩
    · rw [zlb_n (by omega) c]
      exact ⟨xcl_n hp c hR, Or.inl (show p < p + 1 by omega)⟩
theorem zbw_e (h : s x.1 ≠ 125) : zbw s d x = x := by
  cases d with
  | zero => rfl
  | succ d =>
    show (bif decide (s x.1 = 125) then zbw s d (zlb s x) else x) = x
    rw [decide_eq_false h]
    rfl
theorem zbw_s (h : s x.1 = 125) : zbw s (d + 1) x = zbw s d (zlb s x) := by
  show (bif decide (s x.1 = 125) then zbw s d (zlb s x) else x) = _
  rw [decide_eq_true h]
  rfl
theorem n42 (h : s p = 42) : s p ≠ 125 := by rw [h]; decide
/-- it comes to its end -/
theorem zbw_t (hn : n ≤ 160) (h0 : ∀ j, n ≤ j → s j = 0) (hW : xR s n []) : ∀ (d p : Nat) (k : xK), xR s p k → n - p < d → xR s (zbw s d (p, k)).1 (zbw s d (p, k)).2 ∧ s (zbw s d (p, k)).1 ≠ 125 := by
  intro d
  induction d with
  | zero => intro p k _ h; exact absurd h (Nat.not_lt_zero _)
  | succ d ih =>
    intro p k hR hd
    by_cases c : s p = 125
    · rw [zbw_s (x := (p, k)) c]
      obtain ⟨z1, z2⟩ := zlb_t hn h0 hW hR c
      have hpn := lt_n h0 c (by decide)
      rcases z2 with z2 | z2
      · exact ih (zlb s (p, k)).1 (zlb s (p, k)).2 z1 (by omega)
      · rw [show zbw s d (zlb s (p, k)) = zlb s (p, k) from zbw_e (n42 z2)]
        exact ⟨z1, n42 z2⟩
    · rw [zbw_e (x := (p, k)) c]
      exact ⟨hR, c⟩
theorem zbw_fu (hn : n ≤ 160) (h0 : ∀ j, n ≤ j → s j = 0) (hW : xR s n []) : ∀ (d d' p : Nat) (k : xK), xR s p k → n - p < d → n - p < d' → zbw s d (p, k) = zbw s d' (p, k) := by
  intro d
  induction d with
  | zero => intro d' p k _ h; exact absurd h (Nat.not_lt_zero _)
  | succ d ih =>
    intro d' p k hR hd hd'
    cases d' with
    | zero => exact absurd hd' (Nat.not_lt_zero _)
    | succ d' =>
      by_cases c : s p = 125
      · rw [zbw_s (x := (p, k)) c, zbw_s (x := (p, k)) c]
        obtain ⟨z1, z2⟩ := zlb_t hn h0 hW hR c
        have hpn := lt_n h0 c (by decide)
        rcases z2 with z2 | z2
        · exact ih d' (zlb s (p, k)).1 (zlb s (p, k)).2 z1 (by omega) (by omega)
        · rw [show zbw s d (zlb s (p, k)) = zlb s (p, k) from zbw_e (n42 z2), show zbw s d' (zlb s (p, k)) = zlb s (p, k) from zbw_e (n42 z2)]
      · rw [zbw_e (x := (p, k)) c, zbw_e (x := (p, k)) c]
/-- one brace more or less before -/
theorem zbw_1 (hn : n ≤ 160) (h0 : ∀ j, n ≤ j → s j = 0) (hW : xR s n []) (hR : xR s p k) (hp : s p = 125) : zbw s 200 (p, k) = zbw s 200 (zlb s (p, k)) := by
  rw [show (200 : Nat) = 199 + 1 from rfl, zbw_s (x := (p, k)) hp]
  obtain ⟨z1, z2⟩ := zlb_t hn h0 hW hR hp
  exact zbw_fu hn h0 hW 199 (199 + 1) _ _ z1 (by omega) (by omega)
/-! a statement -/
theorem zls_v (hs : s p = 63 ∨ s p = 42) (ns : xns s p k = (true, p', k')) (hv : (zdc s n inp l p (p + 1) D).1 ≠ 0) : zls s n inp l (p, k, D) = (p', k', (zdc s n inp l p (p + 1) D).2) := by
  have e : (decide (s p = 63) || decide (s p = 42)) = true := by
    rcases hs with h | h
    · rw [decide_eq_true h, Bool.true_or]
    · rw [decide_eq_true h, Bool.or_true]
  unfold zls
  show (bif decide (s p = 63) || decide (s p = 42) then (bif decide ((zdc s n inp l p (p + 1) D).1 = 0) then _ else ((xns s p k).2.1, (xns s p k).2.2, (zdc s n inp l p (p + 1) D).2)) else _) = _
  rw [e, decide_eq_false hv, ns]
  rfl
theorem zls_z1 (hs : s p = 63 ∨ s p = 42) (hE : xE s (p + 1) = (true, r)) (hc : zb1 s r = c + 1) (hn2 : ¬ (s p = 63 ∧ s (c + 1) = 123)) (hv : (zdc s n inp l p (p + 1) D).1 = 0) : zls s n inp l (p, k, D) = (c + 1, k, (zdc s n inp l p (p + 1) D).2) := by
  have e : (decide (s p = 63) || decide (s p = 42)) = true := by
    rcases hs with h | h
    · rw [decide_eq_true h, Bool.true_or]
    · rw [decide_eq_true h, Bool.or_true]
  have e2 : (decide (s p = 63) && decide (s (c + 1) = 123)) = false := by
    by_cases d1 : s p = 63
    · rw [decide_eq_false (fun z => hn2 ⟨d1, z⟩), Bool.and_false]
    · rw [decide_eq_false d1, Bool.false_and]
  unfold zls
  show (bif decide (s p = 63) || decide (s p = 42) then (bif decide ((zdc s n inp l p (p + 1) D).1 = 0) then (bif decide (s p = 63) && decide (s (zb1 s (xE s (p + 1)).2) = 123) then _ else (zb1 s (xE s (p + 1)).2, k, (zdc s n inp l p (p + 1) D).2)) else _) else _) = _
  rw [e, decide_eq_true hv, hE]
  show (bif decide (s p = 63) && decide (s (zb1 s r) = 123) then _ else (zb1 s r, k, (zdc s n inp l p (p + 1) D).2)) = _
  rw [hc, e2]
  rfl
theorem zls_z2 (hs : s p = 63) (hE : xE s (p + 1) = (true, r)) (hc : zb1 s r = c + 1) (hc2 : s (c + 1) = 123) (hv : (zdc s n inp l p (p + 1) D).1 = 0) : zls s n inp l (p, k, D) = (c + 2, (p, 2) :: k, (zdc s n inp l p (p + 1) D).2) := by
  unfold zls
  show (bif decide (s p = 63) || decide (s p = 42) then (bif decide ((zdc s n inp l p (p + 1) D).1 = 0) then (bif decide (s p = 63) && decide (s (zb1 s (xE s (p + 1)).2) = 123) then (zb1 s (xE s (p + 1)).2 + 1, (p, 2) :: k, (zdc s n inp l p (p + 1) D).2) else _) else _) else _) = _
  rw [decide_eq_true hs, decide_eq_true hv, hE]
  show (bif decide (s (zb1 s r) = 123) then (zb1 s r + 1, (p, 2) :: k, (zdc s n inp l p (p + 1) D).2) else _) = _
  rw [hc, decide_eq_true hc2]
  rfl
theorem zls_s (h1 : s p ≠ 63) (h2 : s p ≠ 42) (ns : xns s p k = (true, p', k')) : zls s n inp l (p, k, D) = (p', k', zac s n inp l p D) := by
  unfold zls
  show (bif decide (s p = 63) || decide (s p = 42) then _ else ((xns s p k).2.1, (xns s p k).2.2, zac s n inp l p D)) = _
  rw [decide_eq_false h1, decide_eq_false h2, ns]
  rfl
/-- a head and the brace that ends its first block -/
theorem zhe_t (hn : n ≤ 160) (h0 : ∀ j, n ≤ j → s j = 0) (hW : xR s n []) (hR : xR s p k) (hs : s p = 63 ∨ s p = 42) (hE : xE s (p + 1) = (true, r)) (h4 : k.length < 4) (hr : s r = 123) : ∃ c, r < c ∧ c < n ∧ s c = 125 ∧ xR s c ((p, bif decide (s p = 63) then 1 else 0) :: k) ∧ zb1 s r = c + 1 ∧ (¬ (s p = 63 ∧ s (c + 1) = 123) → xR s (c + 1) k) ∧ (s p = 63 → s (c + 1) = 123 → xR s (c + 2) ((p, 2) :: k)) := by
  obtain ⟨g1, g2, g3, g4⟩ := hd_f h0 hR hs hE h4 hr
  obtain ⟨c, c1, c2, c3, c4, c5⟩ := zb1_t hn h0 hW g4 g2
  refine ⟨c, c1, c2, c3, c4, c5, fun d => xcl_n c3 (fun q => d ?_) c4, fun d1 d2 => ?_⟩
  · refine ⟨?_, q.2⟩
    by_cases z : s p = 63
    · exact z
    · rw [decide_eq_false z] at q
      exact absurd q.1 (by decide)
  · rw [decide_eq_true d1] at c4
    exact xcl_e c3 rfl d2 c4
/-- the lane stays on its way -/
theorem zls_R (hn : n ≤ 160) (h0 : ∀ j, n ≤ j → s j = 0) (hW : xR s n []) (hR : xR s p k) (hp : p < n) : xR s (zls s n inp l (p, k, D)).1 (zls s n inp l (p, k, D)).2.1 := by
  rcases xR_n h0 hW hR with ⟨e, -⟩ | ⟨p', k', hs⟩
  · omega
  · have hR' := xR_s hR hs
    by_cases hh : s p = 63 ∨ s p = 42
    · rcases xns_c hs with ⟨t, -⟩ | ⟨-, r, g1, g2, g3, g4, g5⟩ | ⟨e, -, -, -, -, -, t⟩
      · rcases hh with t2 | t2 <;> (rw [t2] at t; exact absurd t (by decide))
      · by_cases hv : (zdc s n inp l p (p + 1) D).1 = 0
        · obtain ⟨c, c1, c2, c3, c4, c5, c6, c7⟩ := zhe_t hn h0 hW hR hh g1 g2 g3
          by_cases d : s p = 63 ∧ s (c + 1) = 123
          · rw [zls_z2 d.1 g1 c5 d.2 hv]
            exact c7 d.1 d.2
          · rw [zls_z1 hh g1 c5 d hv]
            exact c6 d
        · rw [zls_v hh hs hv]
          exact hR'
      · have := XS_h t
        rcases hh with t2 | t2
        · exact absurd t2 this.2.1
        · exact absurd t2 this.2.2
    · rw [zls_s (fun t => hh (Or.inl t)) (fun t => hh (Or.inr t)) hs]
      exact hR'
theorem zln_R (hn : n ≤ 160) (h0 : ∀ j, n ≤ j → s j = 0) (hW : xR s n []) (hR : xR s p k) (hp : p < n) : xR s (zln s n inp l (p, k, D)).1 (zln s n inp l (p, k, D)).2.1 ∧ s (zln s n inp l (p, k, D)).1 ≠ 125 :=
  zbw_t hn h0 hW 200 _ _ (zls_R hn h0 hW hR hp) (by omega)
theorem zgl_0 {Y : xAS} : zgl s n inp l 0 Y = (zhl s n Y, 0, Y) := rfl
theorem zgl_h {L : Nat} {Y : xAS} (h : zhl s n Y = true) : zgl s n inp l L Y = (true, L, Y) := by
  cases L with
  | zero =>
    show (zhl s n Y, 0, Y) = _
    rw [h]
  | succ L =>
    show (bif zhl s n Y then (true, L + 1, Y) else zgl s n inp l L (zln s n inp l Y)) = _
    rw [h]
    rfl
theorem zgl_s {L : Nat} {Y : xAS} (h : zhl s n Y = false) : zgl s n inp l (L + 1) Y = zgl s n inp l L (zln s n inp l Y) := by
  show (bif zhl s n Y then (true, L + 1, Y) else zgl s n inp l L (zln s n inp l Y)) = _
  rw [h]
  rfl
theorem zhl_f {Y : xAS} (h : zhl s n Y = false) : Y.2.2.2.2.2.2.2 = false ∧ Y.1 < n ∧ s Y.1 ≠ 88 := by
  unfold zhl at h
  obtain ⟨h1, h2⟩ := or_f h
  obtain ⟨h3, h4⟩ := or_f h2
  refine ⟨h1, ?_, of_decide_eq_false h4⟩
  rcases Nat.lt_or_ge Y.1 n with c | c
  · exact c
  · rw [ble_t c] at h3
    exact absurd h3 (by decide)
theorem zhl_t {Y : xAS} (h : zhl s n Y = true) : Y.2.2.2.2.2.2.2 = true ∨ n ≤ Y.1 ∨ s Y.1 = 88 := by
  unfold zhl at h
  rcases or_c h with h1 | h1
  · exact Or.inl h1
  · rcases or_c h1 with h2 | h2
    · right; left
      exact Nat.le_of_ble_eq_true h2
    · exact Or.inr (Or.inr (of_decide_eq_true h2))
end YLN
