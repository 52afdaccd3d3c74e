/-! the class reads a term and an expression: where it ends, what it names, what its items are worth -/
/-- how high the stack of the items grows -/
def HB (e : xEv) : List (Int32 × Int32) → List Int32 → Nat → Prop
  | [], _, _ => True
  | i :: l, st, B => (pf1 e i st = none → (i.1 = 73 ∨ i.1 = 76) ∧ st ≠ []) ∧ (i.1 = 97 → 0 ≤ i.2.toInt ∧ i.2.toInt ≤ 7) ∧ ∀ st', pf1 e i st = some st' → st'.length ≤ B ∧ HB e l st' B
theorem HB_a {e : xEv} {B : Nat} {b : List (Int32 × Int32)} : ∀ (a : List (Int32 × Int32)) (st : List Int32), HB e a st B → (∀ st', pfx e a st = some st' → HB e b st' B) → HB e (a ++ b) st B
  | [], st, _, h2 => h2 st rfl
  | i :: a, st, h1, h2 => ⟨h1.1, h1.2.1, fun st' h => ⟨(h1.2.2 st' h).1, HB_a a st' (h1.2.2 st' h).2 (fun s2 h3 => h2 s2 (by
      show (pf1 e i st).bind (pfx e a) = some s2
      rw [h]
      exact h3))⟩⟩
def EV (s : Nat → Int32) (n D p q : Nat) (it : List (Int32 × Int32)) (ev : xEv → Option Int32) : Prop := (∀ (e : xEv) (st : List Int32), pfx e it st = (ev e).map (fun x => x :: st)) ∧ (∀ (e : xEv) (K : xKV) (sum sg : Int32), xv s n e p K sum sg true = (ev e).bind (fun x => xv s n e q K (d_Mo_joined sum sg x) sg false)) ∧ (∀ (e : xEv) (st : List Int32) (B : Nat), st.length + D + 1 ≤ B → HB e it st B)
def EX (s : Nat → Int32) (n D p q : Nat) (it : List (Int32 × Int32)) (ev : xEv → Option Int32) : Prop := (∀ (e : xEv) (st : List Int32), pfx e it st = (ev e).map (fun x => x :: st)) ∧ (∀ (e : xEv) (K : xKV), xv s n e p K 0 43 true = (ev e).bind (fun x => xv s n e q K x 43 false)) ∧ (∀ (e : xEv) (st : List Int32) (B : Nat), st.length + D + 2 ≤ B → HB e it st B)
/-- before -/
def TP (s : Nat → Int32) (n m : Nat) (k : List Int32) (a i0 p : Nat) (v : pd_V) : Prop := RD n s v ∧ Ac p v ∧ p ≤ n ∧ kerOf (v 1 3) = a ∧ v a 4 = Int32.ofNat i0 ∧ i0 ≤ p ∧ k.length ≤ m
/-- behind -/
def RF (s : Nat → Int32) (n m : Nat) (k : List Int32) (a i0 p : Nat) (v u : pd_V) : Prop := ∃ q, q ≤ n ∧ xq s n m p k true = (false, q) ∧ Ac q u ∧ XF a i0 v u
def RS (s : Nat → Int32) (n a i0 p q : Nat) (it : List (Int32 × Int32)) (v u : pd_V) : Prop := p < q ∧ q ≤ n ∧ Ac q u ∧ XF a i0 v u ∧ IT a i0 it u ∧ it.length ≤ q - p ∧ u 1 6 = v 1 6 ||| xnm s p (q - p)
def RT (s : Nat → Int32) (n m : Nat) (k : List Int32) (a i0 p : Nat) (v : pd_V) (r : Int32 × pd_V) : Prop := (r.1 = 0 ∧ RF s n m k a i0 p v r.2) ∨ (r.1 = 1 ∧ ∃ q it ev, xq s n m p k true = xq s n m q k false ∧ RS s n a i0 p q it v r.2 ∧ EV s n (m - k.length) p q it ev)
def RX (s : Nat → Int32) (n m : Nat) (k : List Int32) (a i0 p : Nat) (v : pd_V) (r : Int32 × pd_V) : Prop := (r.1 = 0 ∧ RF s n m k a i0 p v r.2) ∨ (r.1 = 1 ∧ ∃ q it ev, xq s n m p k true = xq s n m q k false ∧ xsgn (s q) = false ∧ RS s n a i0 p q it v r.2 ∧ EX s n (m - k.length) p q it ev)
section RTS
variable {s : Nat → Int32} {n m w a i0 p : Nat} {v u : pd_V} {k : List Int32} {x : Int32}
theorem Ac_1 : Ac (p + 1) (pd_w u 1 2 (Int32.ofNat p + (1 : Int32))) := by
  show pd_w u 1 2 _ 1 2 = _
  rw [pd_w_self, ofN1]
theorem IT_0 (h : v a 4 = Int32.ofNat i0) : IT a i0 [] v := ⟨h, fun j i hj => nomatch (show (none : Option (Int32 × Int32)) = some i from hj)⟩
theorem joined0 (x : Int32) : d_Mo_joined 0 43 x = x := by
  show (0 : Int32) + x = x
  rw [Int32.zero_add]
/-- the state behind one sign taken -/
theorem TP_1 (ha : ker a) (h : TP s n m k a i0 p v) (hp : p + 1 ≤ n) : TP s n m k a i0 (p + 1) (pd_w v 1 2 (Int32.ofNat p + (1 : Int32))) := by
  have pa : a = 3 ∨ a = 88 := ha
  obtain ⟨h1, h2, h3, h4, h5, h6, h7⟩ := h
  refine ⟨RD_X (i0 := 0) ha h1 (XF_1 ha XF_r (Or.inl rfl)), Ac_1, hp, ?_, ?_, by omega, h7⟩
  · rw [pd_w_nk (by decide)]; exact h4
  · rw [pd_w_ne (by omega)]; exact h5
/-- a number -/
theorem rn_m (hn : n ≤ 160) (h0 : ∀ j, n ≤ j → s j = 0) (ha : ker a) : ∀ (f i p : Nat) (y : Int32) (v : pd_V), i ≤ 3 → 3 - i < f → RD n s v → Ac p v → p ≤ n → Sf (d_Re_readNumber_4 w f y (Int32.ofNat i) v) (fun r => ∃ j, j ≤ 3 - i ∧ (∀ b, b < j → xdig (s (p + b)) = true) ∧ (j < 3 - i → xdig (s (p + j)) = false) ∧ p + j ≤ n ∧ Ac (p + j) r.2 ∧ RM v r.2 ∧ r.1 = (bif Nat.beq j 0 then y else bif Nat.beq j 1 then (y * 10 + s p) - 48 else bif Nat.beq j 2 then (((y * 10 + s p) - 48) * 10 + s (p + 1)) - 48 else (((((y * 10 + s p) - 48) * 10 + s (p + 1)) - 48) * 10 + s (p + 2)) - 48)) := by
  intro f
  induction f with
  | zero => intro i p y v _ h; exact absurd h (Nat.not_lt_zero _)
  | succ f ih =>
    intro i p y v hi hf hD hA hp
    have hA' : v 1 2 = Int32.ofNat p := hA
    rw [d_Re_readNumber_4, show (3 : Int32) = Int32.ofNat 3 from rfl, le_nat (by omega) (by omega)]
    refine sf_d (fun c => sf_some ⟨0, by omega, fun b hb => by omega, fun b => by omega, hp, hA, RM_r, rfl⟩) (fun c => ?_)
    rw [nx_t hn hD hA (by omega)]
    refine sf_sb ?_
    rw [isD]
    by_cases hpn : p < n
    · have e : xsN s n p = s p := by unfold xsN; rw [decide_eq_true hpn]; rfl
      rw [e, bi_0]
      cases z : xdig (s p) with
      | false => exact sf_tt (sf_some ⟨0, by omega, fun b hb => by omega, fun _ => z, hp, hA, RM_r, rfl⟩)
      | true =>
        refine sf_f (sf_sb ?_)
        rw [hA', ofN1 i]
        refine sf_mono (ih (i + 1) (p + 1) _ (pd_w v 1 2 (Int32.ofNat p + (1 : Int32))) (by omega) (by omega) ⟨by rw [pd_w_nk (by decide)]; exact hD.1, fun j hj => by rw [pd_w_ne (by decide)]; exact hD.2 j hj⟩ Ac_1 (by omega)) (fun r hr => ?_)
        obtain ⟨j, j1, j2, j3, j4, j5, j6, j7⟩ := hr
        refine ⟨j + 1, by omega, fun b hb => ?_, fun b => ?_, by omega, ?_, RM_t (RM_w RM_r) j6, ?_⟩
        · by_cases zz : b = 0
          · rw [zz]; exact z
          · have := j2 (b - 1) (by omega)
            rw [show p + 1 + (b - 1) = p + b by omega] at this
            exact this
        · have := j3 (by omega)
          rw [show p + 1 + j = p + (j + 1) by omega] at this
          exact this
        · rw [show p + (j + 1) = p + 1 + j by omega]; exact j5
        · rw [j7]
          rcases (show j = 0 ∨ j = 1 ∨ j = 2 by omega) with q | q | q
          · subst q; rfl
          · subst q; rfl
          · subst q; rfl
    · have e : xsN s n p = -1 := by unfold xsN; rw [decide_eq_false hpn]; rfl
      have zz : xdig (s p) = false := by rw [h0 p (by omega)]; decide
      rw [e]
      exact sf_tt (sf_some ⟨0, by omega, fun b hb => by omega, fun _ => zz, hp, hA, RM_r, rfl⟩)
theorem rn_v {j : Nat} (hd : xdig (s p) = true) (j1 : j ≤ 3) (j2 : ∀ b, b < j → xdig (s (p + b)) = true) (j3 : j < 3 → xdig (s (p + j)) = false) : (bif Nat.beq j 0 then (0 : Int32) else bif Nat.beq j 1 then ((0 : Int32) * 10 + s p) - 48 else bif Nat.beq j 2 then ((((0 : Int32) * 10 + s p) - 48) * 10 + s (p + 1)) - 48 else ((((((0 : Int32) * 10 + s p) - 48) * 10 + s (p + 1)) - 48) * 10 + s (p + 2)) - 48) = xval s p := by
  have z : (0 : Int32) * 10 + s p = s p := by rw [Int32.zero_mul, Int32.zero_add]
  unfold xval
  rw [z]
  rcases (show j = 0 ∨ j = 1 ∨ j = 2 ∨ j = 3 by omega) with e | e | e | e
  · have := j3 (by omega)
    rw [e, Nat.add_zero, hd] at this
    exact absurd this (by decide)
  · subst e
    rw [j3 (by omega)]
    rfl
  · subst e
    rw [j2 1 (by omega), j3 (by omega)]
    rfl
  · subst e
    rw [j2 1 (by omega), j2 2 (by omega)]
    rfl
end RTS
