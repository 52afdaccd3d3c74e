/-! where no lane goes -/
/-- on from X to Y, and no statement is done between -/
def WK (s : Nat → Int32) (n : Nat) (X Y : xCS) : Prop := ∃ r, zwk s r X = Y ∧ ∀ t, t < r → zsp s n (zwk s t X) = false
/-- what holds of masks on the way -/
def VI (X : xCS) : Prop := (∀ x, x < 8 → X.2.2.1 x = true → (X.2.2.2.2.2 x).2.2.2.2.2 = false) ∧ (∀ i, i < X.2.1.length → ∀ x, x < 8 → X.2.2.1 x = true → X.2.2.2.1 i x = true) ∧ (∀ i j, i < j → j < X.2.1.length → ∀ x, x < 8 → X.2.2.2.1 j x = true → X.2.2.2.1 i x = true) ∧ (∀ i, X.2.1.length ≤ i → ∀ x, x < 8 → X.2.2.2.1 i x = false) ∧ (∀ i, i < X.2.1.length → ∀ x, x < 8 → X.2.2.2.2.1 i x = true → X.2.2.2.1 i x = true)
def EQ (DD : Nat → xLD) (f g : Nat → Bool) : Prop := ∀ x, x < 8 → zgo f DD x = zgo g DD x
def MONO (DD DD' : Nat → xLD) : Prop := ∀ x, x < 8 → (DD x).2.2.2.2.2 = true → (DD' x).2.2.2.2.2 = true
section ZDW
variable {s : Nat → Int32} {n m w p q j e c o h r N i1 a b l : Nat} {k k0 : xK} {X Y Z X0 : xCS} {inp : Nat → Int32} {v u t : pd_V} {x y : Int32} {DD DD' : Nat → xLD} {f g : Nat → Bool} {B W : Nat → Nat → Bool} {D : xLD}
theorem WK_r : WK s n X X := ⟨0, rfl, fun t h => absurd h (Nat.not_lt_zero _)⟩
theorem WK_t (h1 : WK s n X Y) (h2 : WK s n Y Z) : WK s n X Z := by
  obtain ⟨r1, e1, f1⟩ := h1
  obtain ⟨r2, e2, f2⟩ := h2
  refine ⟨r1 + r2, by rw [zwk_a, e1, e2], fun t ht => ?_⟩
  rcases Nat.lt_or_ge t r1 with c | c
  · exact f1 t c
  · have := f2 (t - r1) (by omega)
    rw [← e1, ← zwk_a, show r1 + (t - r1) = t by omega] at this
    exact this
theorem WK_1 (h : zsp s n X = false) : WK s n X (zpo s X) := ⟨1, rfl, fun t ht => by
  have : t = 0 := by omega
  rw [this]
  exact h⟩
theorem WK_f (hn : n ≤ 160) (h0 : ∀ j, n ≤ j → s j = 0) (hN : N ≤ 80) (hx : xit s N (0, []) = some (n, [])) (hV : zVL s N j X) (h : WK s n X Y) : zfin s n 82 X = zfin s n 82 Y := by
  obtain ⟨r, e, hr⟩ := h
  obtain ⟨t, j', t1, t2, t3, -⟩ := zNX hn h0 hx N j X hV (by omega)
  have hrt : r ≤ t := by
    rcases Nat.lt_or_ge t r with c | c
    · have := hr t c
      rw [t3] at this
      exact absurd this (by decide)
    · exact c
  rw [zfin_w t 82 X (by omega) t2 t3]
  have e2 : zwk s t X = zwk s (t - r) Y := by rw [← e, ← zwk_a, show r + (t - r) = t by omega]
  rw [e2]
  refine (zfin_w (t - r) 82 Y (by omega) (fun i hi => ?_) ?_).symm
  · rw [← e, ← zwk_a]
    exact t2 (r + i) (by omega)
  · rw [← e2]
    exact t3
theorem zsp_n (hp : p < n) (hz : s p = 125 ∨ znone f = true) : zsp s n (p, k, f, B, W, DD) = false := by
  show (Nat.ble n p || (!(decide (s p = 125)) && !(znone f))) = false
  rw [ble_f (by omega)]
  rcases hz with z | z
  · rw [decide_eq_true z]; rfl
  · rw [z]
    cases decide (s p = 125) <;> rfl
theorem zpo_h (hs : s p = 63 ∨ s p = 42) : zpo s (p, k, f, B, W, DD) = (zbe s p, k, f, B, W, DD) := by
  have n125 : s p ≠ 125 := by rcases hs with z | z <;> (rw [z]; decide)
  have c2 : (decide (s p = 63) || decide (s p = 42)) = true := by rcases hs with h | h <;> (rw [h]; decide)
  unfold zpo
  show (bif decide (s p = 125) then _ else bif decide (s p = 63) || decide (s p = 42) then _ else _) = _
  rw [decide_eq_false n125, c2]
  rfl
theorem zpo_s {p' : Nat} {k' : xK} (hh : s p ≠ 125 ∧ s p ≠ 63 ∧ s p ≠ 42) (ns : xns s p k = (true, p', k')) : zpo s (p, k, f, B, W, DD) = (p', k, f, B, W, DD) ∧ k' = k := by
  have h1 := ns
  rw [xns_s (fun z => hh.1 z.1) hh.2.1 hh.2.2] at h1
  have hp' : (xst s p).2 = p' := congrArg (fun t : Bool × Nat × xK => t.2.1) h1
  refine ⟨?_, (congrArg (fun t : Bool × Nat × xK => t.2.2) h1).symm⟩
  unfold zpo
  show (bif decide (s p = 125) then _ else bif decide (s p = 63) || decide (s p = 42) then _ else ((xst s p).2, k, f, B, W, DD)) = _
  rw [decide_eq_false hh.1, decide_eq_false hh.2.1, decide_eq_false hh.2.2, hp']
  rfl
theorem zpo_c (hp : s p = 125) : zpo s (p, (h, m) :: k0, f, B, W, DD) = (bif Nat.beq m 1 && decide (s (p + 1) = 123) then (p + 2, (h, 2) :: k0, zgo (W k0.length) DD, B, W, DD) else bif Nat.beq m 0 && !(znone f) then (h, k0, f, B, W, DD) else (p + 1, k0, zgo (B k0.length) DD, zlv B k0.length (fun _ => false), W, DD)) := by
  unfold zpo
  show (bif decide (s p = 125) then _ else _) = _
  rw [decide_eq_true hp]
  rfl
theorem nel (hm : ¬ (m = 1 ∧ s (p + 1) = 123)) : (Nat.beq m 1 && decide (s (p + 1) = 123)) = false := by
  by_cases c1 : m = 1
  · rw [decide_eq_false (fun q => hm ⟨c1, q⟩), Bool.and_false]
  · rw [beq_f c1, Bool.false_and]
/-- through a block in which no lane goes, to its brace -/
theorem DWK (hn : n ≤ 160) (h0 : ∀ j, n ≤ j → s j = 0) (hW : xR s n []) (hf : znone f = true) : ∀ (d p : Nat), n - p < d → xR s p ((h, m) :: k0) → ∃ c, c < n ∧ s c = 125 ∧ xR s c ((h, m) :: k0) ∧ WK s n (p, (h, m) :: k0, f, B, W, DD) (c, (h, m) :: k0, f, B, W, DD) := by
  intro d
  induction d with
  | zero => intro p hd; exact absurd hd (Nat.not_lt_zero _)
  | succ d ih =>
    intro p hd hR
    obtain ⟨p', k', ns⟩ : ∃ p' k', xns s p ((h, m) :: k0) = (true, p', k') := by
      rcases xR_n h0 hW hR with ⟨-, e⟩ | e
      · exact nomatch e
      · exact e
    have hp := xns_lt h0 ns
    by_cases c125 : s p = 125
    · exact ⟨p, hp, c125, hR, WK_r⟩
    · have hz := zsp_n (s := s) (k := (h, m) :: k0) (B := B) (W := W) (DD := DD) (f := f) hp (Or.inr hf)
      rcases xns_c ns with ⟨t, -⟩ | ⟨hs, r, g1, g2, g3, g4, g5⟩ | ⟨e, g1, g2, g3, g4, g5, g6⟩
      · exact absurd t c125
      · obtain ⟨c, m', c1, c2', c3, -, -, c6, c7⟩ := zbe_t hn h0 hW hR hs g1 g2 g3
        have w1 := WK_1 hz
        rw [zpo_h hs, c6] at w1
        obtain ⟨c', d1, d2, d3, d4⟩ := ih (c + 1) (by omega) c7
        exact ⟨c', d1, d2, d3, WK_t w1 d4⟩
      · have hh := XS_h g6
        obtain ⟨y1, y2⟩ := zpo_s (f := f) (B := B) (W := W) (DD := DD) hh ns
        have w1 := WK_1 hz
        rw [y1] at w1
        have hR' := xR_s hR ns
        rw [y2] at hR'
        have up := xns_up ns
        obtain ⟨c', d1, d2, d3, d4⟩ := ih p' (by omega) hR'
        exact ⟨c', d1, d2, d3, WK_t w1 d4⟩
/-- the same, to the brace that is known -/
theorem DWK_c (hn : n ≤ 160) (h0 : ∀ j, n ≤ j → s j = 0) (hW : xR s n []) (hf : znone f = true) (hR : xR s p ((h, m) :: k0)) (hRc : xR s c ((h, m) :: k0)) (hc : s c = 125) : WK s n (p, (h, m) :: k0, f, B, W, DD) (c, (h, m) :: k0, f, B, W, DD) := by
  obtain ⟨c', d1, d2, ⟨i, d3⟩, d4⟩ := DWK (B := B) (W := W) (DD := DD) hn h0 hW hf (n + 1) p (by omega) hR
  obtain ⟨j, hj⟩ := hRc
  have e := zuq d3 d2 hj hc
  rw [e, hj] at d3
  have e2 : c = c' := congrArg Prod.fst (Option.some.inj d3)
  rw [e2]
  exact d4
theorem znone_g (hz : znone f = true) : znone (zgo f DD) = true := znone_t (fun x hx => by
  unfold zgo
  rw [znone_f hz x hx]
  rfl)
theorem EQ_r : EQ DD f f := fun _ _ => rfl
theorem EQ_s (h : EQ DD f g) : EQ DD g f := fun x hx => (h x hx).symm
theorem EQ_m (h : EQ DD f g) (hm : MONO DD DD') : EQ DD' f g := fun x hx => by
  have h1 := h x hx
  unfold zgo at *
  cases hs : (DD x).2.2.2.2.2 with
  | true =>
    rw [hm x hx hs]
    cases f x <;> cases g x <;> rfl
  | false =>
    rw [hs] at h1
    have h2 : f x = g x := by
      cases z1 : f x with
      | true =>
        cases z2 : g x with
        | true => rfl
        | false => rw [z1, z2] at h1; exact absurd h1 (by decide)
      | false =>
        cases z2 : g x with
        | true => rw [z1, z2] at h1; exact absurd h1 (by decide)
        | false => rfl
    rw [h2]
theorem mono_d {p1 : Nat} : MONO DD (zup f (fun x D => (zdc s n inp x p p1 D).2) DD 8) := fun x hx hs => by
  unfold zup
  cases (Nat.blt x 8 && f x) with
  | false => exact hs
  | true =>
    show (zdc s n inp x p p1 (DD x)).2.2.2.2.2.2 = true
    unfold zdc
    cases xw s n (zev inp x (DD x)) p1 with
    | none => rfl
    | some y => exact hs
theorem st_a (hs : D.2.2.2.2.2 = true) : (zac s n inp l p D).2.2.2.2.2 = true := by
  unfold zac
  cases decide (s p = 82) with
  | true => rfl
  | false =>
    cases decide (s p = 79) with
    | true =>
      show ((xw s n (zev inp l D) (p + 1)).elim (ztr p D) (fun x => zpt x D)).2.2.2.2.2 = true
      cases xw s n (zev inp l D) (p + 1) with
      | none => rfl
      | some x => exact hs
    | false =>
      cases decide (s p = 76) with
      | true =>
        show ((xw s n (zev inp l D) (p + 2)).elim (ztr p D) (fun i => (xw s n (zev inp l D) ((xp s 3 200 (p + 2) [] true).2 + 2)).elim (ztr p D) (fun x => bif decide (d_Mo_beyond i 0 7 = 0) then zsc i.toNatClampNeg x D else ztr p D))).2.2.2.2.2 = true
        cases xw s n (zev inp l D) (p + 2) with
        | none => rfl
        | some i =>
          show ((xw s n (zev inp l D) ((xp s 3 200 (p + 2) [] true).2 + 2)).elim (ztr p D) (fun x => bif decide (d_Mo_beyond i 0 7 = 0) then zsc i.toNatClampNeg x D else ztr p D)).2.2.2.2.2 = true
          cases xw s n (zev inp l D) ((xp s 3 200 (p + 2) [] true).2 + 2) with
          | none => rfl
          | some x =>
            show (bif decide (d_Mo_beyond i 0 7 = 0) then zsc i.toNatClampNeg x D else ztr p D).2.2.2.2.2 = true
            cases decide (d_Mo_beyond i 0 7 = 0) with
            | true => exact hs
            | false => rfl
      | false =>
        show ((xw s n (zev inp l D) (p + 2)).elim (ztr p D) (fun x => zsv (s p - 97).toNatClampNeg x D)).2.2.2.2.2 = true
        cases xw s n (zev inp l D) (p + 2) with
        | none => rfl
        | some x => exact hs
theorem mono_a : MONO DD (zup f (fun x => zac s n inp x p) DD 8) := fun x hx hs => by
  unfold zup
  cases (Nat.blt x 8 && f x) with
  | false => exact hs
  | true => exact st_a hs
theorem mono_x {iv iw : Nat} : MONO DD (zexc s n inp p iv iw f DD) := fun x hx hs => by
  have h1 := mono_d (f := f) (DD := DD) (s := s) (n := n) (inp := inp) (p := p) (p1 := p + 3) x hx hs
  unfold zexc
  generalize zup f (fun x D => (zdc s n inp x p (p + 3) D).2) DD 8 = E at h1 ⊢
  unfold zup
  cases (Nat.blt x 8 && zgo f E x) with
  | false => exact h1
  | true => exact h1
end ZDW
