/-! what varies: the text's own way -/
def zun : List Bool → Bool
  | [] => false
  | d :: D => d || zun D
def zbt (W : Int32) (j : Nat) : Bool := W.toBitVec.getLsbD j
def xdf (s : Nat → Int32) (p c : Nat) (W : Int32) : Bool := match c with
  | 0 => false
  | c + 1 => (decide (s p = 110) || decide (s p = 76) || (xvar (s p) && zbt W (s p - 97).toNatClampNeg)) || xdf s (p + 1) c W
abbrev xLS : Type := Int32 × List Bool × Int32
def zsh (c : Int32) : Int32 := (1 : Int32) <<< (c &&& 31)
def xsec (s : Nat → Int32) (p : Nat) : xK → Bool
  | [] => false
  | (_, m) :: _ => Nat.beq m 1 && decide (s (p + 1) = 123)
def xlk (s : Nat → Int32) (p : Nat) (k : xK) (x : xLS) : xLS :=
  bif decide (s p = 125) then (bif xsec s p k then x else (x.1, x.2.1.tail, x.2.2))
  else bif decide (s p = 63) || decide (s p = 42) then (x.1, xdf s (p + 1) ((xE s (p + 1)).2 - (p + 1)) x.1 :: x.2.1, x.2.2)
  else bif decide (s p = 88) then (x.1 ||| zsh (s (p + 1) - 97), x.2.1, bif zun x.2.1 && decide (x.2.2 = -1) then Int32.ofNat p else x.2.2)
  else bif xvar (s p) then (bif xdf s (p + 2) ((xE s (p + 2)).2 - (p + 2)) x.1 || zun x.2.1 then x.1 ||| zsh (s p - 97) else x.1, x.2.1, x.2.2)
  else x
def xlit (s : Nat → Int32) (r p : Nat) (k : xK) (x : xLS) : xLS := match r with
  | 0 => x
  | r + 1 => xlit s r (xns s p k).2.1 (xns s p k).2.2 (xlk s p k x)
section XLK
variable {s : Nat → Int32} {n p c m h : Nat} {k k0 : xK} {x : xLS} {W : Int32}
theorem vcase {c : Int32} (h : xvar c = true) : c - 97 = 0 ∨ c - 97 = 1 ∨ c - 97 = 2 ∨ c - 97 = 3 ∨ c - 97 = 4 ∨ c - 97 = 5 ∨ c - 97 = 6 ∨ c - 97 = 7 := by
  have := vlet h
  have e : ∀ y : Int32, (c - 97).toInt = y.toInt → c - 97 = y := fun y q => Int32.toInt_inj.mp q
  rcases (show (c - (97 : Int32)).toInt = 0 ∨ (c - (97 : Int32)).toInt = 1 ∨ (c - (97 : Int32)).toInt = 2 ∨ (c - (97 : Int32)).toInt = 3 ∨ (c - (97 : Int32)).toInt = 4 ∨ (c - (97 : Int32)).toInt = 5 ∨ (c - (97 : Int32)).toInt = 6 ∨ (c - (97 : Int32)).toInt = 7 by omega) with q | q | q | q | q | q | q | q
  · exact Or.inl (e 0 q)
  · exact Or.inr (Or.inl (e 1 q))
  · exact Or.inr (Or.inr (Or.inl (e 2 q)))
  · exact Or.inr (Or.inr (Or.inr (Or.inl (e 3 q))))
  · exact Or.inr (Or.inr (Or.inr (Or.inr (Or.inl (e 4 q)))))
  · exact Or.inr (Or.inr (Or.inr (Or.inr (Or.inr (Or.inl (e 5 q))))))
  · exact Or.inr (Or.inr (Or.inr (Or.inr (Or.inr (Or.inr (Or.inl (e 6 q)))))))
  · exact Or.inr (Or.inr (Or.inr (Or.inr (Or.inr (Or.inr (Or.inr (e 7 q)))))))
theorem zsh_b : (List.range 8).all (fun i => (List.range 8).all (fun j => zbt (zsh (Int32.ofNat i)) j == decide ((Int32.ofNat i).toNatClampNeg = j))) = true := by decide +kernel
theorem zsh_b2 {i j : Nat} (hi : i < 8) (hj : j < 8) : zbt (zsh (Int32.ofNat i)) j = decide ((Int32.ofNat i).toNatClampNeg = j) := by
  have h1 := List.all_eq_true.mp zsh_b i (List.mem_range.mpr hi)
  have h2 := List.all_eq_true.mp h1 j (List.mem_range.mpr hj)
  exact eq_of_beq h2
theorem vcaseN {c : Int32} (h : xvar c = true) : ∃ i, i < 8 ∧ c - 97 = Int32.ofNat i := by
  rcases vcase h with q | q | q | q | q | q | q | q
  · exact ⟨0, by decide, q⟩
  · exact ⟨1, by decide, q⟩
  · exact ⟨2, by decide, q⟩
  · exact ⟨3, by decide, q⟩
  · exact ⟨4, by decide, q⟩
  · exact ⟨5, by decide, q⟩
  · exact ⟨6, by decide, q⟩
  · exact ⟨7, by decide, q⟩
theorem zbt_o {c : Int32} (h : xvar c = true) {j : Nat} (hj : j < 8) : zbt (W ||| zsh (c - 97)) j = (zbt W j || decide ((c - 97).toNatClampNeg = j)) := by
  obtain ⟨i, hi, e⟩ := vcaseN h
  rw [e, ← zsh_b2 hi hj]
  unfold zbt
  rw [Int32.toBitVec_or, BitVec.getLsbD_or]
theorem z0_bv {a : Int32} : decide (a = 0) = decide (a.toBitVec = 0#32) := by
  have e : (a = 0) ↔ (a.toBitVec = 0#32) := (Int32.toBitVec_inj (a := a) (b := 0)).symm
  exact decide_eq_decide.mpr e
theorem zsh_t : (List.range 8).all (fun i => decide ((zsh (Int32.ofNat i)).toBitVec = BitVec.twoPow 32 i) && !((256#32).getLsbD i) && decide ((Int32.ofNat i).toNatClampNeg = i) && !(decide (BitVec.twoPow 32 i = 0#32))) = true := by decide +kernel
theorem zsh_a {c : Int32} (h : xvar c = true) : decide (zsh (c - 97) &&& (W ||| 256) = 0) = !(zbt W (c - 97).toNatClampNeg) := by
  obtain ⟨i, hi, e⟩ := vcaseN h
  have h1 := List.all_eq_true.mp zsh_t i (List.mem_range.mpr hi)
  have h2 := and_c h1
  have h3 := and_c h2.1
  have h4 := and_c h3.1
  rw [e, z0_bv, Int32.toBitVec_and, of_decide_eq_true h4.1, BitVec.twoPow_and, Int32.toBitVec_or, BitVec.getLsbD_or, of_decide_eq_true h3.2]
  have h5 : (256 : Int32).toBitVec.getLsbD i = false := by
    have := h4.2
    cases q : (256#32).getLsbD i
    · exact q
    · rw [q] at this; exact absurd this (by decide)
  rw [h5, Bool.or_false]
  unfold zbt
  cases q : W.toBitVec.getLsbD i
  · rfl
  · have h6 := h2.2
    show decide (BitVec.twoPow 32 i = 0#32) = false
    cases q2 : decide (BitVec.twoPow 32 i = 0#32)
    · rfl
    · rw [q2] at h6; exact absurd h6 (by decide)
theorem z256 : decide ((256 : Int32) &&& (W ||| 256) = 0) = false := by
  rw [z0_bv]
  refine decide_eq_false (fun q => ?_)
  have h1 := congrArg (fun t : BitVec 32 => t.getLsbD 8) q
  have h2 : ((256 : Int32) &&& (W ||| 256)).toBitVec.getLsbD 8 = (0#32).getLsbD 8 := h1
  rw [Int32.toBitVec_and, BitVec.getLsbD_and, Int32.toBitVec_or, BitVec.getLsbD_or, show (256 : Int32).toBitVec.getLsbD 8 = true by decide, Bool.or_true] at h2
  exact absurd h2 (by decide)
theorem xb_a {c : Int32} : decide (xb c &&& (W ||| 256) = 0) = !(decide (c = 110) || decide (c = 76) || (xvar c && zbt W (c - 97).toNatClampNeg)) := by
  unfold xb
  cases hv : xvar c with
  | true =>
    rw [decide_eq_false (xvar_x hv 110 (by decide)), decide_eq_false (xvar_x hv 76 (by decide))]
    exact zsh_a hv
  | false =>
    cases h1 : decide (c = 110) with
    | true => exact z256
    | false =>
      cases h2 : decide (c = 76) with
      | true => exact z256
      | false =>
        show decide ((0 : Int32) &&& (W ||| 256) = 0) = true
        rw [Int32.zero_and]
        rfl
theorem xnm_d : ∀ (c p : Nat), decide (xnm s p c &&& (W ||| 256) = 0) = !(xdf s p c W) := by
  intro c
  induction c with
  | zero =>
    intro p
    show decide ((0 : Int32) &&& (W ||| 256) = 0) = true
    rw [Int32.zero_and]
    rfl
  | succ c ih =>
    intro p
    have h1 := xb_a (W := W) (c := s p)
    have h2 := ih (p + 1)
    show decide ((xb (s p) ||| xnm s (p + 1) c) &&& (W ||| 256) = 0) = !((decide (s p = 110) || decide (s p = 76) || (xvar (s p) && zbt W (s p - 97).toNatClampNeg)) || xdf s (p + 1) c W)
    rw [Bool.not_or, ← h1, ← h2, z0_bv, z0_bv, z0_bv, Int32.toBitVec_and, Int32.toBitVec_or, BitVec.and_or_distrib_right, ← Int32.toBitVec_and, ← Int32.toBitVec_and]
    rw [← Bool.decide_and]
    exact decide_eq_decide.mpr BitVec.or_eq_zero_iff
/-- the class's levels -/
def zpl : List Bool → Int32
  | [] => 0
  | d :: D => zpl D ||| (bif d then (1 : Int32) <<< (Int32.ofNat D.length &&& 31) else 0)
theorem zpl_0 : ∀ (D : List Bool), D.length ≤ 4 → decide (zpl D = 0) = !(zun D)
  | [], _ => by decide
  | [a], _ => by revert a; decide
  | [a, b], _ => by revert a b; decide
  | [a, b, c], _ => by revert a b c; decide
  | [a, b, c, d], _ => by revert a b c d; decide
  | _ :: _ :: _ :: _ :: _ :: D, h => absurd h (by show ¬ D.length + 5 ≤ 4; omega)
theorem zpl_p : ∀ (d : Bool) (D : List Bool), D.length ≤ 3 → zpl (d :: D) &&& (((1 : Int32) <<< (Int32.ofNat D.length &&& 31)) ^^^ (-1 : Int32)) = zpl D
  | d, [], _ => by revert d; decide
  | d, [a], _ => by revert d a; decide
  | d, [a, b], _ => by revert d a b; decide
  | d, [a, b, c], _ => by revert d a b c; decide
  | _, _ :: _ :: _ :: _ :: D, h => absurd h (by show ¬ D.length + 4 ≤ 3; omega)
/-! one step, sign by sign -/
theorem xlk_C (hp : s p = 125) (hm : ¬ (m = 1 ∧ s (p + 1) = 123)) : xlk s p ((h, m) :: k0) x = (x.1, x.2.1.tail, x.2.2) := by
  have e : (Nat.beq m 1 && decide (s (p + 1) = 123)) = false := by
    by_cases c1 : m = 1
    · rw [decide_eq_false (fun q => hm ⟨c1, q⟩), Bool.and_false]
    · rw [beq_f c1, Bool.false_and]
  unfold xlk xsec
  rw [decide_eq_true hp]
  show (bif (Nat.beq m 1 && decide (s (p + 1) = 123)) then x else _) = _
  rw [e]
  rfl
theorem xlk_E (hp : s p = 125) (hm : m = 1) (h1 : s (p + 1) = 123) : xlk s p ((h, m) :: k0) x = x := by
  unfold xlk xsec
  rw [decide_eq_true hp, hm, h1]
  rfl
theorem xlk_B {r : Nat} (hp : s p = 63 ∨ s p = 42) (h1 : xE s (p + 1) = (true, r)) : xlk s p k x = (x.1, xdf s (p + 1) (r - (p + 1)) x.1 :: x.2.1, x.2.2) := by
  have c1 : s p ≠ 125 := by rcases hp with h | h <;> (rw [h]; decide)
  have c2 : (decide (s p = 63) || decide (s p = 42)) = true := by rcases hp with h | h <;> (rw [h]; decide)
  unfold xlk
  rw [decide_eq_false c1, c2, h1]
  rfl
theorem xlk_X (hp : s p = 88) : xlk s p k x = (x.1 ||| zsh (s (p + 1) - 97), x.2.1, bif zun x.2.1 && decide (x.2.2 = -1) then Int32.ofNat p else x.2.2) := by
  unfold xlk
  rw [decide_eq_false (show s p ≠ 125 by rw [hp]; decide), decide_eq_false (show s p ≠ 63 by rw [hp]; decide), decide_eq_false (show s p ≠ 42 by rw [hp]; decide), decide_eq_true hp]
  rfl
theorem xlk_V {r : Nat} (hp : xvar (s p) = true) (h1 : xE s (p + 2) = (true, r)) : xlk s p k x = (bif xdf s (p + 2) (r - (p + 2)) x.1 || zun x.2.1 then x.1 ||| zsh (s p - 97) else x.1, x.2.1, x.2.2) := by
  unfold xlk
  rw [decide_eq_false (xvar_x hp 125 (by decide)), decide_eq_false (xvar_x hp 63 (by decide)), decide_eq_false (xvar_x hp 42 (by decide)), decide_eq_false (xvar_x hp 88 (by decide)), hp, h1]
  rfl
theorem xlk_n (hp : s p = 79 ∨ s p = 82 ∨ s p = 76) : xlk s p k x = x := by
  unfold xlk
  rcases hp with h | h | h <;> (rw [h]; rfl)
end XLK
