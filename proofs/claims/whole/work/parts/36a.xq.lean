/-! expressions without fuel -/
def xq (s : Nat → Int32) (n m p : Nat) (k : List Int32) (t : Bool) : Bool × Nat := xp s m (n + 2 - p) p k t
section XQF
variable {s : Nat → Int32} {n m p : Nat} {k : List Int32}
theorem xp_fu (h0 : ∀ j, n ≤ j → s j = 0) : ∀ (f f' p : Nat) (k : List Int32) (t : Bool), n + 1 ≤ p + f → n + 1 ≤ p + f' → p ≤ n → xp s m f p k t = xp s m f' p k t := by
  intro f
  induction f with
  | zero => intro f' p k t h1 h2 h3; exact absurd h1 (by omega)
  | succ f ih =>
    intro f' p k t h1 h2 h3
    obtain ⟨f', rfl⟩ : ∃ g, f' = g + 1 := ⟨f' - 1, by omega⟩
    cases t with
    | true =>
      cases e : xpl s p with
      | mk b p2 =>
        cases b with
        | true =>
          have g := xpl_g e
          rw [xp_pl e, xp_pl e]
          exact ih f' p2 k false (by omega) (by omega) (xrg_n h0 h3 g.1)
        | false =>
          obtain ⟨d1, d2, -⟩ := xpl_f e rfl
          rw [xp_op d1 d2, xp_op d1 d2]
          cases Nat.beq k.length m with
          | true => rfl
          | false =>
            cases e2 : xop s p with
            | mk b2 p3 =>
              cases b2 with
              | true =>
                have g := xop_g e2
                exact ih f' p3 (s p :: k) true (by omega) (by omega) (xrg_n h0 h3 g.1)
              | false => rfl
    | false =>
      rw [xp, xp]
      show (bif xsgn (s p) then xp s m f (p + 1) k true else bif k.isEmpty then (true, p) else bif decide (s p = xclo (k.headD 0)) then xp s m f (p + 1) k.tail false else (false, p)) = (bif xsgn (s p) then xp s m f' (p + 1) k true else bif k.isEmpty then (true, p) else bif decide (s p = xclo (k.headD 0)) then xp s m f' (p + 1) k.tail false else (false, p))
      cases e : xsgn (s p) with
      | true =>
        have g := xrg_n h0 h3 (xrg_1 (xsgn_ok e))
        exact ih f' (p + 1) k true (by omega) (by omega) g
      | false =>
        cases k.isEmpty with
        | true => rfl
        | false =>
          cases z : decide (s p = xclo (k.headD 0)) with
          | true =>
            have g := xrg_n h0 h3 (xrg_1 (xclo_ok (of_decide_eq_true z)))
            exact ih f' (p + 1) k.tail false (by omega) (by omega) g
          | false => rfl
theorem xq_E (hn : n ≤ 160) (h0 : ∀ j, n ≤ j → s j = 0) (hp : p ≤ n) : xE s p = xq s n 4 p [] true := by
  unfold xE xq
  exact xp_fu h0 200 (n + 2 - p) p [] true (by omega) (by omega) hp
theorem xq_E1 (hn : n ≤ 160) (h0 : ∀ j, n ≤ j → s j = 0) (hp : p ≤ n) : xE1 s p = xo s (xq s n 3 p [] true) := by
  unfold xE1 xq
  rw [xp_fu h0 200 (n + 2 - p) p [] true (by omega) (by omega) hp]
theorem xq_pl {r : Nat} (hn : n ≤ 160) (h0 : ∀ j, n ≤ j → s j = 0) (hp : p ≤ n) (e : xpl s p = (true, r)) : xq s n m p k true = xq s n m r k false := by
  have g := xrg_n h0 hp (xpl_g e).1
  have g2 := (xpl_g e).2
  unfold xq
  rw [show n + 2 - p = (n + 1 - p) + 1 by omega, xp_pl e]
  exact xp_fu h0 (n + 1 - p) (n + 2 - r) r k false (by omega) (by omega) g
theorem xq_of (hp : p ≤ n) (h1 : xdig (s p) = false) (h2 : (decide (s p = 110) || xvar (s p)) = false) (h3 : k.length = m) : xq s n m p k true = (false, xof s p) := by
  unfold xq
  rw [show n + 2 - p = (n + 1 - p) + 1 by omega, xp_op h1 h2, h3, Nat.beq_refl]
  rfl
theorem beq_f {a b : Nat} (h : a ≠ b) : Nat.beq a b = false := by
  cases q : Nat.beq a b
  · rfl
  · exact absurd (Nat.eq_of_beq_eq_true q) h
theorem xq_op {r : Nat} (hn : n ≤ 160) (h0 : ∀ j, n ≤ j → s j = 0) (hp : p ≤ n) (h1 : xdig (s p) = false) (h2 : (decide (s p = 110) || xvar (s p)) = false) (h3 : k.length ≠ m) (e : xop s p = (true, r)) : xq s n m p k true = xq s n m r (s p :: k) true := by
  have g := xrg_n h0 hp (xop_g e).1
  have g2 := (xop_g e).2
  unfold xq
  rw [show n + 2 - p = (n + 1 - p) + 1 by omega, xp_op h1 h2, beq_f h3, e]
  exact xp_fu h0 (n + 1 - p) (n + 2 - r) r (s p :: k) true (by omega) (by omega) g
theorem xq_on {r : Nat} (hp : p ≤ n) (h1 : xdig (s p) = false) (h2 : (decide (s p = 110) || xvar (s p)) = false) (h3 : k.length ≠ m) (e : xop s p = (false, r)) : xq s n m p k true = (false, r) := by
  unfold xq
  rw [show n + 2 - p = (n + 1 - p) + 1 by omega, xp_op h1 h2, beq_f h3, e]
  rfl
theorem xq_sg (hn : n ≤ 160) (h0 : ∀ j, n ≤ j → s j = 0) (hp : p ≤ n) (e : xsgn (s p) = true) : xq s n m p k false = xq s n m (p + 1) k true := by
  have g := xrg_n h0 hp (xrg_1 (xsgn_ok e))
  unfold xq
  rw [show n + 2 - p = (n + 1 - p) + 1 by omega, xp]
  show (bif xsgn (s p) then xp s m (n + 1 - p) (p + 1) k true else _) = _
  rw [e]
  exact xp_fu h0 (n + 1 - p) (n + 2 - (p + 1)) (p + 1) k true (by omega) (by omega) g
theorem xq_ni (hp : p ≤ n) (e : xsgn (s p) = false) : xq s n m p [] false = (true, p) := by
  unfold xq
  rw [show n + 2 - p = (n + 1 - p) + 1 by omega, xp]
  show (bif xsgn (s p) then xp s m (n + 1 - p) (p + 1) [] true else (true, p)) = _
  rw [e]
  rfl
theorem xq_cl {c : Int32} (hn : n ≤ 160) (h0 : ∀ j, n ≤ j → s j = 0) (hp : p ≤ n) (e : xsgn (s p) = false) : xq s n m p (c :: k) false = bif decide (s p = xclo c) then xq s n m (p + 1) k false else (false, p) := by
  unfold xq
  rw [show n + 2 - p = (n + 1 - p) + 1 by omega, xp]
  show (bif xsgn (s p) then xp s m (n + 1 - p) (p + 1) (c :: k) true else bif decide (s p = xclo c) then xp s m (n + 1 - p) (p + 1) k false else (false, p)) = _
  rw [e]
  show (bif decide (s p = xclo c) then xp s m (n + 1 - p) (p + 1) k false else (false, p)) = _
  cases z : decide (s p = xclo c) with
  | true =>
    have g := xrg_n h0 hp (xrg_1 (xclo_ok (of_decide_eq_true z)))
    exact xp_fu h0 (n + 1 - p) (n + 2 - (p + 1)) (p + 1) k false (by omega) (by omega) g
  | false => rfl
end XQF
/-! what an expression is worth -/
abbrev xEv : Type := (Nat → Int32) × (Nat → Int32) × (Nat → Int32) × Int32
/-- a number of up to three digits -/
def xval (s : Nat → Int32) (p : Nat) : Int32 := bif xdig (s (p + 1)) then (bif xdig (s (p + 2)) then ((((s p - 48) * 10 + s (p + 1)) - 48) * 10 + s (p + 2)) - 48 else ((s p - 48) * 10 + s (p + 1)) - 48) else s p - 48
/-- a plain term's worth -/
def xpv (s : Nat → Int32) (e : xEv) (p : Nat) : Int32 := bif xdig (s p) then xval s p else bif decide (s p = 110) then e.2.2.2 else e.1 (s p - 97).toNatClampNeg
/-- behind a bracket -/
def xbk (e : xEv) (c x : Int32) : Option Int32 := bif decide (c = 73) then (bif decide (d_Mo_beyond x 0 15 = 0) then some (e.2.1 x.toNatClampNeg) else none) else bif decide (c = 76) then (bif decide (d_Mo_beyond x 0 7 = 0) then some (e.2.2.1 x.toNatClampNeg) else none) else some x
/-- the worth, from the left: for each open bracket what it opened with, the sum before it, and the sign that waits -/
def xe (s : Nat → Int32) (e : xEv) (f p : Nat) (k : List (Int32 × Int32 × Int32)) (sum sg : Int32) (t : Bool) : Option Int32 := match f with
  | 0 => none
  | f + 1 =>
    bif t then
      bif (xpl s p).1 then xe s e f (xpl s p).2 k (d_Mo_joined sum sg (xpv s e p)) sg false
      else bif (xop s p).1 then xe s e f (xop s p).2 ((s p, sum, sg) :: k) 0 43 true else none
    else
      bif xsgn (s p) then xe s e f (p + 1) k sum (s p) true
      else bif k.isEmpty then some sum
      else bif !(decide (s p = xclo (k.headD (0, 0, 0)).1)) then none
      else (xbk e (k.headD (0, 0, 0)).1 sum).bind fun x => xe s e f (p + 1) k.tail (d_Mo_joined (k.headD (0, 0, 0)).2.1 (k.headD (0, 0, 0)).2.2 x) (k.headD (0, 0, 0)).2.2 false
/-- items, each operand before its operator -/
def pf1 (e : xEv) (i : Int32 × Int32) (st : List Int32) : Option (List Int32) :=
  bif decide (i.1 = 48) then some (i.2 :: st)
  else bif decide (i.1 = 73) then (bif st.isEmpty then none else (xbk e 73 (st.headD 0)).map (fun x => x :: st.tail))
  else bif decide (i.1 = 76) then (bif st.isEmpty then none else (xbk e 76 (st.headD 0)).map (fun x => x :: st.tail))
  else bif decide (i.1 = 97) then some (e.1 i.2.toNatClampNeg :: st)
  else bif decide (i.1 = 110) then some (e.2.2.2 :: st)
  else (bif st.tail.isEmpty then none else some (d_Cr_joined i.1 (st.tail.headD 0) (st.headD 0) :: st.tail.tail))
def pfx (e : xEv) (l : List (Int32 × Int32)) (st : List Int32) : Option (List Int32) := match l with
  | [] => some st
  | i :: l => (pf1 e i st).bind (pfx e l)
theorem pfx_a {e : xEv} (a b : List (Int32 × Int32)) (st : List Int32) : pfx e (a ++ b) st = (pfx e a st).bind (pfx e b) := by
  induction a generalizing st with
  | nil => rfl
  | cons i a ih =>
    show (pf1 e i st).bind (pfx e (a ++ b)) = ((pf1 e i st).bind (pfx e a)).bind (pfx e b)
    cases pf1 e i st with
    | none => rfl
    | some x => exact ih x
