/-! the worth of an expression, without fuel -/
abbrev xKV : Type := List (Int32 × Int32 × Int32)
def xv (s : Nat → Int32) (n : Nat) (e : xEv) (p : Nat) (k : xKV) (sum sg : Int32) (t : Bool) : Option Int32 := xe s e (n + 2 - p) p k sum sg t
section XV
variable {s : Nat → Int32} {n p : Nat} {e : xEv} {k : xKV} {sum sg : Int32}
theorem xe_fu (h0 : ∀ j, n ≤ j → s j = 0) : ∀ (f f' p : Nat) (k : xKV) (sum sg : Int32) (t : Bool), n + 1 ≤ p + f → n + 1 ≤ p + f' → p ≤ n → xe s e f p k sum sg t = xe s e f' p k sum sg t := by
  intro f
  induction f with
  | zero => intro f' p k sum sg t h1 h2 h3; exact absurd h1 (by omega)
  | succ f ih =>
    intro f' p k sum sg t h1 h2 h3
    obtain ⟨f', rfl⟩ : ∃ g, f' = g + 1 := ⟨f' - 1, by omega⟩
    rw [xe, xe]
    cases t with
    | true =>
      show (bif (xpl s p).1 then xe s e f (xpl s p).2 k (d_Mo_joined sum sg (xpv s e p)) sg false else bif (xop s p).1 then xe s e f (xop s p).2 ((s p, sum, sg) :: k) 0 43 true else none) = (bif (xpl s p).1 then xe s e f' (xpl s p).2 k (d_Mo_joined sum sg (xpv s e p)) sg false else bif (xop s p).1 then xe s e f' (xop s p).2 ((s p, sum, sg) :: k) 0 43 true else none)
      cases e1 : xpl s p with
      | mk b p2 =>
        cases b with
        | true =>
          have g := xpl_g e1
          exact ih f' p2 k _ sg false (by omega) (by omega) (xrg_n h0 h3 g.1)
        | false =>
          cases e2 : xop s p with
          | mk b2 p3 =>
            cases b2 with
            | true =>
              have g := xop_g e2
              exact ih f' p3 _ 0 43 true (by omega) (by omega) (xrg_n h0 h3 g.1)
            | false => rfl
    | false =>
      show (bif xsgn (s p) then xe s e f (p + 1) k sum (s p) true else bif k.isEmpty then some sum else bif !(decide (s p = xclo (k.headD (0, 0, 0)).1)) then none else (xbk e (k.headD (0, 0, 0)).1 sum).bind fun x => xe s e f (p + 1) k.tail (d_Mo_joined (k.headD (0, 0, 0)).2.1 (k.headD (0, 0, 0)).2.2 x) (k.headD (0, 0, 0)).2.2 false) = (bif xsgn (s p) then xe s e f' (p + 1) k sum (s p) true else bif k.isEmpty then some sum else bif !(decide (s p = xclo (k.headD (0, 0, 0)).1)) then none else (xbk e (k.headD (0, 0, 0)).1 sum).bind fun x => xe s e f' (p + 1) k.tail (d_Mo_joined (k.headD (0, 0, 0)).2.1 (k.headD (0, 0, 0)).2.2 x) (k.headD (0, 0, 0)).2.2 false)
      cases e1 : xsgn (s p) with
      | true => exact ih f' (p + 1) k sum (s p) true (by omega) (by omega) (xrg_n h0 h3 (xrg_1 (xsgn_ok e1)))
      | false =>
        cases k.isEmpty with
        | true => rfl
        | false =>
          cases z : decide (s p = xclo (k.headD (0, 0, 0)).1) with
          | false => rfl
          | true =>
            have g := xrg_n h0 h3 (xrg_1 (xclo_ok (of_decide_eq_true z)))
            show (xbk e (k.headD (0, 0, 0)).1 sum).bind _ = (xbk e (k.headD (0, 0, 0)).1 sum).bind _
            congr 1
            funext x
            exact ih f' (p + 1) k.tail _ _ false (by omega) (by omega) g
theorem xv_pl {r : Nat} (hn : n ≤ 160) (h0 : ∀ j, n ≤ j → s j = 0) (hp : p ≤ n) (h : xpl s p = (true, r)) : xv s n e p k sum sg true = xv s n e r k (d_Mo_joined sum sg (xpv s e p)) sg false := by
  have g := xrg_n h0 hp (xpl_g h).1
  have g2 := (xpl_g h).2
  unfold xv
  rw [show n + 2 - p = (n + 1 - p) + 1 by omega, xe]
  show (bif (xpl s p).1 then xe s e (n + 1 - p) (xpl s p).2 k (d_Mo_joined sum sg (xpv s e p)) sg false else _) = _
  rw [h]
  exact xe_fu h0 (n + 1 - p) (n + 2 - r) r k _ sg false (by omega) (by omega) g
theorem xv_op {q r : Nat} (hn : n ≤ 160) (h0 : ∀ j, n ≤ j → s j = 0) (hp : p ≤ n) (h1 : xpl s p = (false, q)) (h : xop s p = (true, r)) : xv s n e p k sum sg true = xv s n e r ((s p, sum, sg) :: k) 0 43 true := by
  have g := xrg_n h0 hp (xop_g h).1
  have g2 := (xop_g h).2
  unfold xv
  rw [show n + 2 - p = (n + 1 - p) + 1 by omega, xe]
  show (bif (xpl s p).1 then xe s e (n + 1 - p) (xpl s p).2 k (d_Mo_joined sum sg (xpv s e p)) sg false else bif (xop s p).1 then xe s e (n + 1 - p) (xop s p).2 ((s p, sum, sg) :: k) 0 43 true else none) = _
  rw [h1, h]
  exact xe_fu h0 (n + 1 - p) (n + 2 - r) r _ 0 43 true (by omega) (by omega) g
theorem xv_sg (hn : n ≤ 160) (h0 : ∀ j, n ≤ j → s j = 0) (hp : p ≤ n) (h : xsgn (s p) = true) : xv s n e p k sum sg false = xv s n e (p + 1) k sum (s p) true := by
  have g := xrg_n h0 hp (xrg_1 (xsgn_ok h))
  unfold xv
  rw [show n + 2 - p = (n + 1 - p) + 1 by omega, xe]
  show (bif xsgn (s p) then xe s e (n + 1 - p) (p + 1) k sum (s p) true else _) = _
  rw [h]
  exact xe_fu h0 (n + 1 - p) (n + 2 - (p + 1)) (p + 1) k sum (s p) true (by omega) (by omega) g
theorem xv_ni (hp : p ≤ n) (h : xsgn (s p) = false) : xv s n e p [] sum sg false = some sum := by
  unfold xv
  rw [show n + 2 - p = (n + 1 - p) + 1 by omega, xe]
  show (bif xsgn (s p) then xe s e (n + 1 - p) (p + 1) [] sum (s p) true else some sum) = _
  rw [h]
  rfl
theorem xv_cl {c sm g : Int32} (hn : n ≤ 160) (h0 : ∀ j, n ≤ j → s j = 0) (hp : p ≤ n) (h : s p = xclo c) : xv s n e p ((c, sm, g) :: k) sum sg false = (xbk e c sum).bind fun x => xv s n e (p + 1) k (d_Mo_joined sm g x) g false := by
  have hs : xsgn (s p) = false := by
    rw [h]
    rcases xclo_c c with z | z <;> (rw [z]; decide)
  have gg := xrg_n h0 hp (xrg_1 (xclo_ok h))
  unfold xv
  rw [show n + 2 - p = (n + 1 - p) + 1 by omega, xe]
  show (bif xsgn (s p) then _ else bif !(decide (s p = xclo c)) then none else (xbk e c sum).bind fun x => xe s e (n + 1 - p) (p + 1) k (d_Mo_joined sm g x) g false) = _
  rw [hs, decide_eq_true h]
  show ((xbk e c sum).bind fun x => xe s e (n + 1 - p) (p + 1) k (d_Mo_joined sm g x) g false) = _
  congr 1
  funext x
  exact xe_fu h0 (n + 1 - p) (n + 2 - (p + 1)) (p + 1) k _ g false (by omega) (by omega) gg
theorem xv_si {g : Int32} (hp : p ≤ n) (h : xsgn (s p) = false) : xv s n e p k sum sg false = xv s n e p k sum g false := by
  unfold xv
  rw [show n + 2 - p = (n + 1 - p) + 1 by omega, xe, xe]
  show (bif xsgn (s p) then _ else bif k.isEmpty then some sum else bif !(decide (s p = xclo (k.headD (0, 0, 0)).1)) then none else (xbk e (k.headD (0, 0, 0)).1 sum).bind fun x => xe s e (n + 1 - p) (p + 1) k.tail (d_Mo_joined (k.headD (0, 0, 0)).2.1 (k.headD (0, 0, 0)).2.2 x) (k.headD (0, 0, 0)).2.2 false) = (bif xsgn (s p) then _ else bif k.isEmpty then some sum else bif !(decide (s p = xclo (k.headD (0, 0, 0)).1)) then none else (xbk e (k.headD (0, 0, 0)).1 sum).bind fun x => xe s e (n + 1 - p) (p + 1) k.tail (d_Mo_joined (k.headD (0, 0, 0)).2.1 (k.headD (0, 0, 0)).2.2 x) (k.headD (0, 0, 0)).2.2 false)
  rw [h]
end XV
