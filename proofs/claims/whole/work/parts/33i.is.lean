/-! the reference reads what is drafted -/
def DR (n : Nat) (s : Nat → Int32) (v : pd_V) : Prop := v 198 2 = Int32.ofNat n ∧ ∀ j, j < n → v 199 j = s j
def MP (v q : pd_V) : Prop := (∀ a, a ≠ 198 → a ≠ 219 → a ≠ 212 → q a = v a) ∧ (∀ k, k ≠ 6 → q 198 k = v 198 k)
def bi (b : Bool) : Int32 := bif b then 1 else 0
def XR (x : Bool × Nat) (v : pd_V) (r : Int32 × pd_V) : Prop := r.1 = bi x.1 ∧ At x.2 r.2 ∧ MP v r.2 ∧ r.2 212 = v 212
def XQ (x : Bool × Nat) (v : pd_V) (r : Int32 × pd_V) : Prop := XR x v r ∧ r.2 219 = v 219
section IX
variable {s : Nat → Int32} {n m w : Nat} {v u q : pd_V} {p : Nat} {x : Int32}
theorem MP_r : MP v v := ⟨fun _ _ _ _ => rfl, fun _ _ => rfl⟩
theorem MP_t (h1 : MP v u) (h2 : MP u q) : MP v q := ⟨fun a b c d => (h2.1 a b c d).trans (h1.1 a b c d), fun k b => (h2.2 k b).trans (h1.2 k b)⟩
theorem MP_6 (h : MP v u) : MP v (pd_w u 198 6 x) := ⟨fun a b c d => by rw [pd_wa b]; exact h.1 a b c d, fun k b => by rw [pd_w_nk b]; exact h.2 k b⟩
theorem MP_w {a k : Nat} (h : MP v u) (ha : a = 219 ∨ a = 212) : MP v (pd_w u a k x) := ⟨fun b b1 b2 b3 => by rw [pd_wa (by omega)]; exact h.1 b b1 b2 b3, fun j b => by rw [pd_w_ne (by omega)]; exact h.2 j b⟩
theorem DR_P (h : DR n s v) (e : MP v q) : DR n s q := ⟨by rw [e.2 2 (by decide)]; exact h.1, fun j hj => by rw [e.1 199 (by decide) (by decide) (by decide)]; exact h.2 j hj⟩
theorem bi_0 {b : Bool} : decide (bi b = 0) = !b := by cases b <;> decide
theorem see_t (hn : n ≤ 160) (h0 : ∀ j, n ≤ j → s j = 0) (hD : DR n s v) (hA : At p v) (hp : p ≤ 900) : d_Mo_see v = some (s p) := by
  have hA' : v 198 6 = Int32.ofNat p := hA
  unfold d_Mo_see
  rw [hA', hD.1, le_nat (by omega) (by omega)]
  by_cases c : n ≤ p
  · rw [decide_eq_true c, h0 p c]
    rfl
  · rw [decide_eq_false c, in_nat (show p < 160 by omega) (by omega), cl_nat (by omega), hD.2 p (by omega)]
    rfl
theorem tk_t {c : Int32} (hn : n ≤ 160) (h0 : ∀ j, n ≤ j → s j = 0) (hD : DR n s v) (hA : At p v) (hp : p ≤ 900) : d_Mo_takes c v = some (bif decide (s p = c) then ((1 : Int32), pd_w v 198 6 (Int32.ofNat p + (1 : Int32))) else ((0 : Int32), v)) := by
  have hA' : v 198 6 = Int32.ofNat p := hA
  unfold d_Mo_takes
  rw [see_t hn h0 hD hA hp, hA']
  show (bif decide (s p = c) then _ else _) = _
  cases decide (s p = c) <;> rfl
theorem tv_t (hn : n ≤ 160) (h0 : ∀ j, n ≤ j → s j = 0) (hD : DR n s v) (hA : At p v) (hp : p ≤ 900) : d_Mo_takesVariable v = some (bif xvar (s p) then ((1 : Int32), pd_w v 198 6 (Int32.ofNat p + (1 : Int32))) else ((0 : Int32), v)) := by
  have hA' : v 198 6 = Int32.ofNat p := hA
  unfold d_Mo_takesVariable
  rw [see_t hn h0 hD hA hp, hA']
  show (bif xvar (s p) then _ else _) = _
  cases xvar (s p) <;> rfl
theorem XR_1 {r : Int32 × pd_V} (e : r = ((1 : Int32), pd_w v 198 6 (Int32.ofNat p + (1 : Int32)))) : XR (true, p + 1) v r := by
  subst e
  exact ⟨rfl, At_1, MP_6 MP_r, show pd_w v 198 6 (Int32.ofNat p + (1 : Int32)) 212 = v 212 from pd_wa (by decide)⟩
theorem XR_0 {r : Int32 × pd_V} (hA : At p v) (e : r = ((0 : Int32), v)) : XR (false, p) v r := by
  subst e
  exact ⟨rfl, hA, MP_r, rfl⟩
theorem XQ_1 {r : Int32 × pd_V} (e : r = ((1 : Int32), pd_w v 198 6 (Int32.ofNat p + (1 : Int32)))) : XQ (true, p + 1) v r := by
  subst e
  exact ⟨XR_1 rfl, show pd_w v 198 6 (Int32.ofNat p + (1 : Int32)) 219 = v 219 from pd_wa (by decide)⟩
theorem XQ_0 {r : Int32 × pd_V} (hA : At p v) (e : r = ((0 : Int32), v)) : XQ (false, p) v r := by
  subst e
  exact ⟨XR_0 hA rfl, rfl⟩
theorem XR_t {y : Bool × Nat} {r : Int32 × pd_V} (h : MP v u) (h2 : u 212 = v 212) (hr : XR y u r) : XR y v r := ⟨hr.1, hr.2.1, MP_t h hr.2.2.1, hr.2.2.2.trans h2⟩
/-- up to three digits -/
theorem ip_m (hn : n ≤ 160) (h0 : ∀ j, n ≤ j → s j = 0) : ∀ (i f p : Nat) (v : pd_V), i ≤ 3 → 3 - i < f → DR n s v → At p v → p + (3 - i) ≤ 900 → Sf (d_Mo_isPlain_16 w f (Int32.ofNat i) v) (fun r => ∃ j, j ≤ 3 - i ∧ (∀ a, a < j → xdig (s (p + a)) = true) ∧ (j < 3 - i → xdig (s (p + j)) = false) ∧ XQ (true, p + j) v r) := by
  intro i f
  induction f generalizing i with
  | zero => intro p v _ h; exact absurd h (Nat.not_lt_zero _)
  | succ f ih =>
    intro p v hi hf hD hA hp
    have hA' : v 198 6 = Int32.ofNat p := hA
    rw [d_Mo_isPlain_16, show (3 : Int32) = Int32.ofNat 3 from rfl, le_nat (by omega) (by omega)]
    refine sf_d (fun c => sf_some ⟨0, by omega, fun a b => by omega, fun b => by omega, ⟨rfl, hA, MP_r, rfl⟩, rfl⟩) (fun c => ?_)
    rw [see_t hn h0 hD hA (by omega)]
    show Sf (bif !(decide (d_Mo_beyond (s p) (48 : Int32) (57 : Int32) = 0)) then _ else _) _
    cases e : xdig (s p) with
    | false =>
      have e' : decide (d_Mo_beyond (s p) (48 : Int32) (57 : Int32) = 0) = false := e
      rw [e']
      exact sf_some ⟨0, by omega, fun a b => by omega, fun _ => e, ⟨rfl, hA, MP_r, rfl⟩, rfl⟩
    | true =>
      have e' : decide (d_Mo_beyond (s p) (48 : Int32) (57 : Int32) = 0) = true := e
      rw [e', hA', ofN1 i]
      refine sf_f (sf_mono (ih (i + 1) (p + 1) (pd_w v 198 6 (Int32.ofNat p + (1 : Int32))) (by omega) (by omega) (DR_P hD (MP_6 MP_r)) At_1 (by omega)) (fun r hr => ?_))
      obtain ⟨j, j1, j2, j3, j4⟩ := hr
      refine ⟨j + 1, by omega, fun a b => ?_, fun b => ?_, ?_⟩
      · by_cases z : a = 0
        · rw [z]
          exact e
        · have := j2 (a - 1) (by omega)
          rw [show p + 1 + (a - 1) = p + a by omega] at this
          exact this
      · have := j3 (by omega)
        rw [show p + 1 + j = p + (j + 1) by omega] at this
        exact this
      · rw [show p + 1 + j = p + (j + 1) by omega] at j4
        exact ⟨XR_t (MP_6 MP_r) (pd_wa (by decide)) j4.1, j4.2.trans (pd_wa (by decide))⟩
theorem ip_n {j : Nat} (hd : xdig (s p) = true) (j1 : j ≤ 3) (j2 : ∀ a, a < j → xdig (s (p + a)) = true) (j3 : j < 3 → xdig (s (p + j)) = false) : p + j = xnum s p := by
  unfold xnum
  cases c1 : xdig (s (p + 1)) with
  | false =>
    show p + j = p + 1
    rcases (show j = 0 ∨ j = 1 ∨ 2 ≤ j by omega) with e | e | e
    · have := j3 (by omega)
      rw [e, Nat.add_zero, hd] at this
      exact absurd this (by decide)
    · omega
    · rw [j2 1 (by omega)] at c1
      exact absurd c1 (by decide)
  | true =>
    cases c2 : xdig (s (p + 2)) with
    | false =>
      show p + j = p + 2
      rcases (show j = 0 ∨ j = 1 ∨ j = 2 ∨ 3 ≤ j by omega) with e | e | e | e
      · have := j3 (by omega)
        rw [e, Nat.add_zero, hd] at this
        exact absurd this (by decide)
      · have := j3 (by omega)
        rw [e, c1] at this
        exact absurd this (by decide)
      · omega
      · rw [j2 2 (by omega)] at c2
        exact absurd c2 (by decide)
    | true =>
      show p + j = p + 3
      rcases (show j = 0 ∨ j = 1 ∨ j = 2 ∨ j = 3 by omega) with e | e | e | e
      · have := j3 (by omega)
        rw [e, Nat.add_zero, hd] at this
        exact absurd this (by decide)
      · have := j3 (by omega)
        rw [e, c1] at this
        exact absurd this (by decide)
      · have := j3 (by omega)
        rw [e, c2] at this
        exact absurd this (by decide)
      · omega
def xpl (s : Nat → Int32) (p : Nat) : Bool × Nat := bif xdig (s p) then (true, xnum s p) else bif decide (s p = 110) || xvar (s p) then (true, p + 1) else (false, p)
theorem ip_t (hw : 4294967296 < w) (hn : n ≤ 160) (h0 : ∀ j, n ≤ j → s j = 0) (hD : DR n s v) (hA : At p v) (hp : p ≤ 800) : Sf (d_Mo_isPlain w v) (XQ (xpl s p) v) := by
  unfold d_Mo_isPlain xpl
  rw [see_t hn h0 hD hA (by omega)]
  show Sf (bif !(decide (d_Mo_beyond (s p) (48 : Int32) (57 : Int32) = 0)) then _ else _) _
  cases e : xdig (s p) with
  | true =>
    have e' : decide (d_Mo_beyond (s p) (48 : Int32) (57 : Int32) = 0) = true := e
    rw [e']
    refine sf_f (sf_mono (ip_m hn h0 0 w p v (by omega) (by omega) hD hA (by omega)) (fun r hr => ?_))
    obtain ⟨j, j1, j2, j3, j4⟩ := hr
    rw [ip_n e j1 j2 j3] at j4
    exact j4
  | false =>
    have e' : decide (d_Mo_beyond (s p) (48 : Int32) (57 : Int32) = 0) = false := e
    rw [e', tk_t hn h0 hD hA (by omega)]
    refine sf_tt ?_
    show Sf (Option.bind (some (bif decide (s p = 110) then ((1 : Int32), pd_w v 198 6 (Int32.ofNat p + (1 : Int32))) else ((0 : Int32), v))) _) (XQ (bif decide (s p = 110) || xvar (s p) then (true, p + 1) else (false, p)) v)
    cases c : decide (s p = 110) with
    | true => exact sf_some (XQ_1 rfl)
    | false =>
      show Sf ((d_Mo_takesVariable v).bind _) (XQ (bif xvar (s p) then (true, p + 1) else (false, p)) v)
      rw [tv_t hn h0 hD hA (by omega)]
      cases c2 : xvar (s p) with
      | true => exact sf_some (XQ_1 rfl)
      | false => exact sf_some (XQ_0 hA rfl)
/-! brackets -/
def SH (o : Nat) (v : pd_V) : List Int32 → Prop
  | [] => o = 1 → v 219 0 = 93
  | c :: k => v 219 (k.length + o) = xclo c ∧ SH o v k
theorem SH_e {o : Nat} {k : List Int32} (h : SH o v k) (e : ∀ j, j < k.length + o → q 219 j = v 219 j) : SH o q k := by
  induction k with
  | nil => exact fun z => by rw [e 0 (by show 0 < 0 + o; omega)]; exact h z
  | cons c k ih =>
    refine ⟨by rw [e _ (by show k.length + o < k.length + 1 + o; omega)]; exact h.1, ih h.2 (fun j hj => e j (by show j < k.length + 1 + o; omega))⟩
def xop (s : Nat → Int32) (p : Nat) : Bool × Nat :=
  bif decide (s p = 40) then (true, p + 1) else bif decide (s p = 73) || decide (s p = 76) then (bif decide (s (p + 1) = 91) then (true, p + 2) else (false, p + 1)) else (false, p)
def xof (s : Nat → Int32) (p : Nat) : Nat := bif decide (s p = 73) || decide (s p = 76) then p + 1 else p
def OP (s : Nat → Int32) (p d : Nat) (v : pd_V) (r : Int32 × pd_V) : Prop := (d = 4 → r.1 = 0 ∧ At (xof s p) r.2) ∧ (d ≠ 4 → r.1 = bi (xop s p).1 ∧ At (xop s p).2 r.2) ∧ MP v r.2 ∧ r.2 212 = v 212 ∧ (∀ j, j < d → r.2 219 j = v 219 j) ∧ (r.1 ≠ 0 → r.2 219 d = xclo (s p))
theorem OP_y {d pp : Nat} {y : Int32} (hd : d ≤ 4) (z : d ≠ 4) (m1 : MP v u) (m2 : u 212 = v 212) (m3 : u 219 = v 219) (a1 : At pp u) (a2 : xop s p = (true, pp)) (a5 : y = xclo (s p)) : OP s p d v ((1 : Int32), pd_w u 219 (Int32.ofNat d).toNatClampNeg y) := by
  rw [cl_nat (by omega)]
  refine ⟨fun q => absurd q z, fun _ => ?_, MP_w m1 (Or.inl rfl), ?_, fun j hj => ?_, fun _ => ?_⟩
  · rw [a2]
    exact ⟨rfl, At_w a1 (by decide)⟩
  · show pd_w u 219 d y 212 = _
    rw [pd_wa (by decide)]
    exact m2
  · show pd_w u 219 d y 219 j = _
    rw [pd_w_nk (by omega), m3]
  · show pd_w u 219 d y 219 d = _
    rw [pd_w_self]
    exact a5
theorem OP_n {d : Nat} (m1 : MP v u) (m2 : u 212 = v 212) (m3 : u 219 = v 219) (a1 : d = 4 → At (xof s p) u) (a2 : d ≠ 4 → (xop s p).1 = false ∧ At (xop s p).2 u) : OP s p d v ((0 : Int32), u) :=
  ⟨fun z => ⟨rfl, a1 z⟩, fun z => ⟨by show (0 : Int32) = bi (xop s p).1; rw [(a2 z).1]; rfl, (a2 z).2⟩, m1, m2, fun j _ => by show u 219 j = _; rw [m3], fun z => absurd rfl z⟩
theorem op_t {d : Nat} (hn : n ≤ 160) (h0 : ∀ j, n ≤ j → s j = 0) (hD : DR n s v) (hA : At p v) (hp : p ≤ 800) (hd : d ≤ 4) : Sf (d_Mo_opens (Int32.ofNat d) v) (OP s p d v) := by
  have hA' : v 198 6 = Int32.ofNat p := hA
  have e4 : decide (Int32.ofNat d = (4 : Int32)) = decide (d = 4) := by
    rw [show (4 : Int32) = Int32.ofNat 4 from rfl, eq_nat (by omega) (by omega)]
  have i6 : pm_in (Int32.ofNat d) 6 = true := in_nat (by omega) (by omega)
  have q212 : ∀ y, pd_w v 198 6 y 212 = v 212 := fun y => pd_wa (by decide)
  have q219 : ∀ y, pd_w v 198 6 y 219 = v 219 := fun y => pd_wa (by decide)
  have il : (s p = 73 ∨ s p = 76) → Sf (d_Mo_opens_25 (Int32.ofNat d) (s p) v) (OP s p d v) := by
    intro hs
    have n40 : s p ≠ 40 := by rcases hs with h | h <;> (rw [h]; decide)
    have or1 : (decide (s p = 73) || decide (s p = 76)) = true := by rcases hs with h | h <;> (rw [h]; decide)
    have xc : (93 : Int32) = xclo (s p) := by unfold xclo; rw [decide_eq_false n40]; rfl
    have xf : xof s p = p + 1 := by unfold xof; rw [or1]; rfl
    have xo1 : xop s p = (bif decide (s (p + 1) = 91) then (true, p + 2) else (false, p + 1)) := by unfold xop; rw [decide_eq_false n40, or1]; rfl
    unfold d_Mo_opens_25 d_Mo_opens_41 d_Mo_opens_66
    rw [decide_eq_false n40, hA', e4]
    refine sf_f ?_
    have D1 := DR_P hD (MP_6 (x := Int32.ofNat p + (1 : Int32)) MP_r)
    refine sf_d (fun z => sf_some (OP_n (MP_6 MP_r) (q212 _) (q219 _) (fun _ => by rw [xf]; exact At_1) (fun y => absurd z y))) (fun z => ?_)
    refine sf_tt ?_
    rw [tk_t hn h0 D1 At_1 (by omega)]
    refine sf_sb ?_
    cases c : decide (s (p + 1) = 91) with
    | true =>
      rw [c] at xo1
      refine sf_n (fun _ => ?_) (fun c => absurd (show (1 : Int32) = 0 from c) (by decide))
      refine sf_tt (sf_c i6 (sf_some (OP_y hd z (MP_6 (MP_6 MP_r)) ?_ ?_ At_1 xo1 xc)))
      · show pd_w (pd_w v 198 6 (Int32.ofNat p + (1 : Int32))) 198 6 (Int32.ofNat (p + 1) + (1 : Int32)) 212 = v 212
        rw [pd_wa (by decide)]
        exact q212 _
      · show pd_w (pd_w v 198 6 (Int32.ofNat p + (1 : Int32))) 198 6 (Int32.ofNat (p + 1) + (1 : Int32)) 219 = v 219
        rw [pd_wa (by decide)]
        exact q219 _
    | false =>
      rw [c] at xo1
      refine sf_n (fun c => absurd rfl c) (fun _ => sf_some (OP_n (u := pd_w v 198 6 (Int32.ofNat p + (1 : Int32))) (MP_6 MP_r) (q212 _) (q219 _) (fun y => absurd y z) (fun _ => ?_)))
      rw [xo1]
      exact ⟨rfl, At_1⟩
  unfold d_Mo_opens
  rw [see_t hn h0 hD hA (by omega)]
  show Sf (bif decide (s p = 73) then d_Mo_opens_25 (Int32.ofNat d) (s p) v else bif decide (s p = 76) then d_Mo_opens_25 (Int32.ofNat d) (s p) v else bif decide (s p = 40) then d_Mo_opens_25 (Int32.ofNat d) (s p) v else some ((0 : Int32), v)) (OP s p d v)
  refine sf_d (fun c1 => il (Or.inl c1)) (fun c1 => ?_)
  refine sf_d (fun c2 => il (Or.inr c2)) (fun c2 => ?_)
  have xf : xof s p = p := by unfold xof; rw [decide_eq_false c1, decide_eq_false c2]; rfl
  refine sf_d (fun c3 => ?_) (fun c3 => ?_)
  · have x1 : xop s p = (true, p + 1) := by unfold xop; rw [decide_eq_true c3]; rfl
    have xc : (41 : Int32) = xclo (s p) := by unfold xclo; rw [decide_eq_true c3]; rfl
    unfold d_Mo_opens_25 d_Mo_opens_41 d_Mo_opens_66
    rw [decide_eq_true c3, e4]
    refine sf_tt (sf_d (fun z => sf_some (OP_n MP_r rfl rfl (fun _ => by rw [xf]; exact hA) (fun y => absurd z y))) (fun z => ?_))
    refine sf_f ?_
    rw [tk_t hn h0 hD hA (by omega), decide_eq_true c3]
    refine sf_sb ?_
    refine sf_n (fun _ => ?_) (fun c => absurd (show (1 : Int32) = 0 from c) (by decide))
    exact sf_f (sf_c i6 (sf_some (OP_y (u := pd_w v 198 6 (Int32.ofNat p + (1 : Int32))) hd z (MP_6 MP_r) (q212 _) (q219 _) At_1 x1 xc)))
  · have x1 : xop s p = (false, p) := by unfold xop; rw [decide_eq_false c3, decide_eq_false c1, decide_eq_false c2]; rfl
    refine sf_some (OP_n MP_r rfl rfl (fun _ => by rw [xf]; exact hA) (fun _ => ?_))
    rw [x1]
    exact ⟨rfl, hA⟩
end IX
