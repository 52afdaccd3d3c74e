/-! the class reads an expression -/
def RD (n : Nat) (s : Nat → Int32) (v : pd_V) : Prop := v 1 1 = Int32.ofNat n ∧ ∀ j, j < n → v 2 j = s j
def Ac (p : Nat) (v : pd_V) : Prop := v 1 2 = Int32.ofNat p
def xb (c : Int32) : Int32 := bif xvar c then (1 : Int32) <<< ((c - 97) &&& 31) else bif decide (c = 110) || decide (c = 76) then 256 else 0
/-- which letters stand in a span -/
def xnm (s : Nat → Int32) (p c : Nat) : Int32 := match c with
  | 0 => 0
  | c + 1 => xb (s p) ||| xnm s (p + 1) c
/-- what reading an expression leaves alone -/
def XF (a i0 : Nat) (v q : pd_V) : Prop := (∀ b, b ≠ 1 → b ≠ a → b ≠ a + 2 → b ≠ a + 3 → q b = v b) ∧ (∀ k, k ≠ 2 → k ≠ 6 → q 1 k = v 1 k) ∧ (∀ k, k ≠ 4 → q a k = v a k) ∧ (∀ j, j < i0 → q (a + 2) j = v (a + 2) j ∧ q (a + 3) j = v (a + 3) j)
/-- the items of a list stand from i0 on -/
def IT (a i0 : Nat) (it : List (Int32 × Int32)) (v : pd_V) : Prop := v a 4 = Int32.ofNat (i0 + it.length) ∧ ∀ j i, it[j]? = some i → v (a + 2) (i0 + j) = i.1 ∧ v (a + 3) (i0 + j) = i.2
section RDS
variable {s : Nat → Int32} {n m w a i0 p : Nat} {v u q : pd_V} {k : List Int32} {x : Int32}
theorem xnm_a (i j : Nat) : ∀ p, xnm s p (i + j) = xnm s p i ||| xnm s (p + i) j := by
  induction i with
  | zero => intro p; rw [Nat.zero_add]; show _ = (0 : Int32) ||| xnm s p j; rw [Int32.zero_or]
  | succ i ih =>
    intro p
    rw [show i + 1 + j = (i + j) + 1 by omega]
    show xb (s p) ||| xnm s (p + 1) (i + j) = (xb (s p) ||| xnm s (p + 1) i) ||| xnm s (p + (i + 1)) j
    rw [ih (p + 1), Int32.or_assoc, show p + 1 + i = p + (i + 1) by omega]
theorem xnm_1 : xnm s p 1 = xb (s p) := by
  show xb (s p) ||| (0 : Int32) = _
  rw [Int32.or_zero]
theorem XF_r : XF a i0 v v := ⟨fun _ _ _ _ _ => rfl, fun _ _ _ => rfl, fun _ _ => rfl, fun _ _ => ⟨rfl, rfl⟩⟩
theorem XF_t {i1 : Nat} (hi : i0 ≤ i1) (h1 : XF a i0 v u) (h2 : XF a i1 u q) : XF a i0 v q := ⟨fun b c d e f => (h2.1 b c d e f).trans (h1.1 b c d e f), fun k c d => (h2.2.1 k c d).trans (h1.2.1 k c d), fun k c => (h2.2.2.1 k c).trans (h1.2.2.1 k c), fun j hj => ⟨(h2.2.2.2 j (by omega)).1.trans (h1.2.2.2 j hj).1, (h2.2.2.2 j (by omega)).2.trans (h1.2.2.2 j hj).2⟩⟩
theorem XF_1 {j : Nat} (ha : ker a) (h : XF a i0 v u) (hj : j = 2 ∨ j = 6) : XF a i0 v (pd_w u 1 j x) := by
  have pa : a = 3 ∨ a = 88 := ha
  refine ⟨fun b c d e f => ?_, fun k c d => ?_, fun k c => ?_, fun j hj => ?_⟩
  · rw [pd_wa c]; exact h.1 b c d e f
  · rw [pd_w_nk (by omega)]; exact h.2.1 k c d
  · rw [pd_w_ne (by omega)]; exact h.2.2.1 k c
  · rw [pd_w_ne (by omega), pd_w_ne (by omega)]; exact h.2.2.2 j hj
theorem RD_X (ha : ker a) (h : RD n s v) (e : XF a i0 v q) : RD n s q := by
  have pa : a = 3 ∨ a = 88 := ha
  exact ⟨by rw [e.2.1 1 (by decide) (by decide)]; exact h.1, fun j hj => by rw [e.1 2 (by decide) (by omega) (by omega) (by omega)]; exact h.2 j hj⟩
theorem ker_X (ha : ker a) (h : kerOf (v 1 3) = a) (e : XF a i0 v q) : kerOf (q 1 3) = a := by rw [e.2.1 3 (by decide) (by decide)]; exact h
/-! signs -/
def xsN (s : Nat → Int32) (n p : Nat) : Int32 := bif decide (p < n) then s p else -1
theorem nx_t (hn : n ≤ 160) (hD : RD n s v) (hA : Ac p v) (hp : p ≤ 900) : d_Re_next v = some (xsN s n p) := by
  have hA' : v 1 2 = Int32.ofNat p := hA
  unfold d_Re_next xsN
  rw [hA', hD.1, lt0 (by omega), le_nat (by omega) (by omega)]
  by_cases c : p < n
  · rw [decide_eq_true c, decide_eq_false (show ¬ n ≤ p by omega), in_nat (show p < 160 by omega) (by omega), cl_nat (by omega), hD.2 p c]
    rfl
  · rw [decide_eq_false c, decide_eq_true (show n ≤ p by omega)]
    rfl
theorem tkc_t {c : Int32} (hn : n ≤ 160) (h0 : ∀ j, n ≤ j → s j = 0) (hD : RD n s v) (hA : Ac p v) (hp : p ≤ 900) (hc : c ≠ 0) : d_Re_take c v = some (bif decide (s p = c) then ((1 : Int32), pd_w v 1 2 (Int32.ofNat p + (1 : Int32))) else ((0 : Int32), v)) := by
  have hA' : v 1 2 = Int32.ofNat p := hA
  unfold d_Re_take
  rw [hA', hD.1, lt0 (by omega), le_nat (by omega) (by omega)]
  by_cases d : p < n
  · rw [decide_eq_false (show ¬ n ≤ p by omega), in_nat (show p < 160 by omega) (by omega), cl_nat (by omega), hD.2 p d]
    show (bif decide (s p = c) then _ else _) = _
    cases decide (s p = c) <;> rfl
  · rw [decide_eq_true (show n ≤ p by omega), h0 p (by omega), decide_eq_false (Ne.symm hc)]
    rfl
theorem isD (c : Int32) : d_Re_isDigit c = bi (xdig c) := by
  unfold d_Re_isDigit xdig
  by_cases h1 : c < 48
  · rw [bey_lo h1, decide_eq_true h1]; rfl
  · rw [decide_eq_false h1]
    by_cases h2 : c ≤ 57
    · have h3 : ¬ (57 : Int32) < c := fun q => by rw [Int32.lt_iff_toInt_lt] at q; rw [Int32.le_iff_toInt_le] at h2; omega
      rw [bey_in h1 h2, decide_eq_false h3]; rfl
    · have h3 : (57 : Int32) < c := by rw [Int32.lt_iff_toInt_lt]; have h4 : ¬ c.toInt ≤ (57 : Int32).toInt := fun q => h2 (Int32.le_iff_toInt_le.mpr q); omega
      rw [bey_hi h1 h2, decide_eq_true h3]; rfl
theorem isV (c : Int32) : d_Re_isVariable c = bi (xvar c) := by
  unfold d_Re_isVariable xvar
  by_cases h1 : c < 97
  · rw [bey_lo h1, decide_eq_true h1]; rfl
  · rw [decide_eq_false h1]
    by_cases h2 : c ≤ 104
    · have h3 : ¬ (104 : Int32) < c := fun q => by rw [Int32.lt_iff_toInt_lt] at q; rw [Int32.le_iff_toInt_le] at h2; omega
      rw [bey_in h1 h2, decide_eq_false h3]; rfl
    · have h3 : (104 : Int32) < c := by rw [Int32.lt_iff_toInt_lt]; have h4 : ¬ c.toInt ≤ (104 : Int32).toInt := fun q => h2 (Int32.le_iff_toInt_le.mpr q); omega
      rw [bey_hi h1 h2, decide_eq_true h3]; rfl
theorem isO (c : Int32) : decide (d_Re_isOperator c = 0) = !(xsgn c) := by
  show decide (d_Mo_isSign c = 0) = !(!(decide (d_Mo_isSign c = 0)))
  rw [Bool.not_not]
/-- one more item -/
theorem ai_t {it : List (Int32 × Int32)} {y z : Int32} (ha : ker a) (hI : IT a i0 it v) (hl : i0 + it.length < 160) : Sf (d_Ke_addItem a y z v) (fun q => IT a i0 (it ++ [(y, z)]) q ∧ XF a (i0 + it.length) v q ∧ q 1 = v 1) := by
  have pa : a = 3 ∨ a = 88 := ha
  obtain ⟨h4, hit⟩ := hI
  unfold d_Ke_addItem
  rw [h4, show (160 : Int32) = Int32.ofNat 160 from rfl, le_nat (by omega) (by omega), decide_eq_false (show ¬ 160 ≤ i0 + it.length by omega), cl_nat (by omega)]
  have e1 : ∀ (j : Nat) (t : Int32), pd_w v (a + 2) j t a 4 = Int32.ofNat (i0 + it.length) := fun j t => (pd_w_ne (by omega)).trans h4
  refine sf_f (sf_c (in_nat (by omega) (by omega)) ?_)
  rw [e1, cl_nat (by omega)]
  have e2 : ∀ (j : Nat) (t : Int32), pd_w (pd_w v (a + 2) (i0 + it.length) y) (a + 3) j t a 4 = Int32.ofNat (i0 + it.length) := fun j t => (pd_w_ne (by omega)).trans (e1 _ _)
  refine sf_c (in_nat (by omega) (by omega)) ?_
  rw [e2, ofN1]
  refine sf_some ⟨⟨?_, fun j i hj => ?_⟩, ⟨fun b c d e f => ?_, fun k c d => ?_, fun k c => ?_, fun j hj => ?_⟩, ?_⟩
  · rw [pd_w_self, List.length_append]; rfl
  · rw [pd_w_ne (by omega), pd_w_ne (by omega), pd_w_ne (show a + 3 ≠ a by omega)]
    by_cases c : j < it.length
    · rw [List.getElem?_append_left c] at hj
      rw [pd_w_nk (by omega), pd_w_nk (by omega), pd_w_ne (by omega)]
      exact hit j i hj
    · have hj2 : j = it.length := by
        have := (List.getElem?_eq_some_iff.mp hj).1
        rw [List.length_append] at this
        have e : ([(y, z)] : List (Int32 × Int32)).length = 1 := rfl
        omega
      subst hj2
      rw [List.getElem?_append_right (Nat.le_refl _), Nat.sub_self] at hj
      have := Option.some.inj hj
      subst this
      rw [pd_w_self, pd_w_self]
      exact ⟨rfl, rfl⟩
  · rw [pd_wa d, pd_wa f, pd_wa e]
  · rw [pd_w_ne (by omega), pd_w_ne (by omega), pd_w_ne (by omega)]
  · rw [pd_w_nk c, pd_w_ne (by omega), pd_w_ne (by omega)]
  · rw [pd_w_ne (by omega), pd_w_ne (by omega), pd_w_nk (by omega), pd_w_ne (show a + 3 ≠ a by omega), pd_w_nk (by omega), pd_w_ne (by omega)]
    exact ⟨rfl, rfl⟩
  · rw [pd_wa (by omega), pd_wa (by omega), pd_wa (by omega)]
end RDS
